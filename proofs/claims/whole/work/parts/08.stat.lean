-- checks of the tables against the words
theorem ckl_at {M : Nat} : ∀ (l : List (Option (Instr × Nat))) (p j : Nat), ckl M p l = true → ck1 M (p + j) (l.getD j none) = true
  | [], p, j, _ => by cases j <;> rfl
  | e :: t, p, 0, h => by
    simp only [ckl, Bool.and_eq_true] at h
    exact h.1
  | e :: t, p, j + 1, h => by
    simp only [ckl, Bool.and_eq_true] at h
    have := ckl_at t (p + 1) j h.2
    rw [show p + (j + 1) = p + 1 + j by omega]
    exact this
theorem ckl_ch {M p n pc : Nat} (h : ckl M p (((cds.getD M []).drop p).take n) = true) (h1 : p ≤ pc) (h2 : pc < p + n) : ck1 M pc (fetch M pc) = true := by
  have := ckl_at _ p (pc - p) h
  rw [show p + (pc - p) = pc by omega] at this
  have e : ((((cds.getD M []).drop p).take n).getD (pc - p) none) = fetch M pc := by
    unfold fetch
    generalize cds.getD M [] = l
    rw [List.getD_eq_getElem?_getD, List.getD_eq_getElem?_getD, List.getElem?_take, if_pos (by omega), List.getElem?_drop, show p + (pc - p) = pc by omega]
  rw [e] at this
  exact this
theorem ck0_all (pc : Nat) : ck1 0 pc (fetch 0 pc) = true := by
  by_cases h : pc < 1120
  · have : (0 ≤ pc ∧ pc < 70) ∨ (70 ≤ pc ∧ pc < 140) ∨ (140 ≤ pc ∧ pc < 210) ∨ (210 ≤ pc ∧ pc < 280) ∨ (280 ≤ pc ∧ pc < 350) ∨ (350 ≤ pc ∧ pc < 420) ∨ (420 ≤ pc ∧ pc < 490) ∨ (490 ≤ pc ∧ pc < 560) ∨ (560 ≤ pc ∧ pc < 630) ∨ (630 ≤ pc ∧ pc < 700) ∨ (700 ≤ pc ∧ pc < 770) ∨ (770 ≤ pc ∧ pc < 840) ∨ (840 ≤ pc ∧ pc < 910) ∨ (910 ≤ pc ∧ pc < 980) ∨ (980 ≤ pc ∧ pc < 1050) ∨ (1050 ≤ pc ∧ pc < 1120) := by omega
    rcases this with ⟨a, b⟩ | ⟨a, b⟩ | ⟨a, b⟩ | ⟨a, b⟩ | ⟨a, b⟩ | ⟨a, b⟩ | ⟨a, b⟩ | ⟨a, b⟩ | ⟨a, b⟩ | ⟨a, b⟩ | ⟨a, b⟩ | ⟨a, b⟩ | ⟨a, b⟩ | ⟨a, b⟩ | ⟨a, b⟩ | ⟨a, b⟩
    · exact ckl_ch ck0_0 a b
    · exact ckl_ch ck0_1 a b
    · exact ckl_ch ck0_2 a b
    · exact ckl_ch ck0_3 a b
    · exact ckl_ch ck0_4 a b
    · exact ckl_ch ck0_5 a b
    · exact ckl_ch ck0_6 a b
    · exact ckl_ch ck0_7 a b
    · exact ckl_ch ck0_8 a b
    · exact ckl_ch ck0_9 a b
    · exact ckl_ch ck0_10 a b
    · exact ckl_ch ck0_11 a b
    · exact ckl_ch ck0_12 a b
    · exact ckl_ch ck0_13 a b
    · exact ckl_ch ck0_14 a b
    · exact ckl_ch ck0_15 a b
  · have e : fetch 0 pc = none := by
      unfold fetch
      rw [List.getD_eq_getElem?_getD, List.getElem?_eq_none]
      · rfl
      · exact Nat.le_trans (by decide +kernel) (Nat.le_of_not_lt h)
    rw [e]; rfl
theorem ck_all {M : Nat} (hM : M < 189) (pc : Nat) : ck1 M pc (fetch M pc) = true := by
  have key : ∀ (a n : Nat), (List.range' a n).all ckM = true → a ≤ M → M < a + n → ck1 M pc (fetch M pc) = true := by
    intro a n h h1 h2
    have h3 : ckM M = true := List.all_eq_true.mp h M (List.mem_range'_1.mpr ⟨h1, h2⟩)
    have h4 := ckl_at _ 0 pc h3
    rw [Nat.zero_add] at h4
    exact h4
  have : M = 0 ∨ (1 ≤ M ∧ M < 1 + 10) ∨ (11 ≤ M ∧ M < 11 + 10) ∨ (21 ≤ M ∧ M < 21 + 10) ∨ (31 ≤ M ∧ M < 31 + 10) ∨ (41 ≤ M ∧ M < 41 + 10) ∨ (51 ≤ M ∧ M < 51 + 10) ∨ (61 ≤ M ∧ M < 61 + 10) ∨ (71 ≤ M ∧ M < 71 + 10) ∨ (81 ≤ M ∧ M < 81 + 10) ∨ (91 ≤ M ∧ M < 91 + 10) ∨ (101 ≤ M ∧ M < 101 + 10) ∨ (111 ≤ M ∧ M < 111 + 10) ∨ (121 ≤ M ∧ M < 121 + 10) ∨ (131 ≤ M ∧ M < 131 + 10) ∨ (141 ≤ M ∧ M < 141 + 10) ∨ (151 ≤ M ∧ M < 151 + 10) ∨ (161 ≤ M ∧ M < 161 + 10) ∨ (171 ≤ M ∧ M < 171 + 10) ∨ (181 ≤ M ∧ M < 181 + 8) := by omega
  rcases this with rfl | ⟨a, b⟩ | ⟨a, b⟩ | ⟨a, b⟩ | ⟨a, b⟩ | ⟨a, b⟩ | ⟨a, b⟩ | ⟨a, b⟩ | ⟨a, b⟩ | ⟨a, b⟩ | ⟨a, b⟩ | ⟨a, b⟩ | ⟨a, b⟩ | ⟨a, b⟩ | ⟨a, b⟩ | ⟨a, b⟩ | ⟨a, b⟩ | ⟨a, b⟩ | ⟨a, b⟩ | ⟨a, b⟩
  · exact ck0_all pc
  · exact key _ _ ck_r1 a b
  · exact key _ _ ck_r11 a b
  · exact key _ _ ck_r21 a b
  · exact key _ _ ck_r31 a b
  · exact key _ _ ck_r41 a b
  · exact key _ _ ck_r51 a b
  · exact key _ _ ck_r61 a b
  · exact key _ _ ck_r71 a b
  · exact key _ _ ck_r81 a b
  · exact key _ _ ck_r91 a b
  · exact key _ _ ck_r101 a b
  · exact key _ _ ck_r111 a b
  · exact key _ _ ck_r121 a b
  · exact key _ _ ck_r131 a b
  · exact key _ _ ck_r141 a b
  · exact key _ _ ck_r151 a b
  · exact key _ _ ck_r161 a b
  · exact key _ _ ck_r171 a b
  · exact key _ _ ck_r181 a b
def at_ (p : Nat) (w : Cond) : Bool := decide (xtbl[p]? = some w) && goodWord w
theorem at_in {p : Nat} {w : Cond} (h : at_ p w = true) : w ∈ xtbl ∧ goodWord w = true := by
  simp only [at_, Bool.and_eq_true, decide_eq_true_eq] at h
  exact ⟨List.mem_of_getElem? h.1, h.2⟩
def kF (own : Nat) (e : Nat × Nat × Nat × Nat × Nat) : Bool := at_ e.2.2.2.1 (.fieldLink (xcl own) e.1 (xcl e.2.2.1) (fd e.2.1).2.1 (fd e.2.1).2.2.1) && (decide (xcl e.2.2.1 = (fd e.2.1).1) || at_ e.2.2.2.2 (.sameField (xcl e.2.2.1) (fd e.2.1).1 (fd e.2.1).2.1 (fd e.2.1).2.2.1))
theorem kF_ok : (List.range 14).all (fun own => (cpFT.getD own []).all (kF own)) = true := by decide +kernel
def kC (own : Nat) (e : Nat × Nat × Nat) : Bool := at_ e.2.2 (.classLink (xcl own) e.1 (xcl e.2.1))
theorem kC_ok : (List.range 14).all (fun own => (cpCT.getD own []).all (kC own)) = true := by decide +kernel
def kI (c : Nat) : Bool := at_ (cinT.getD c (0, 0)).1 (.instantiable (xcl c) (ctab c).length) && at_ (cinT.getD c (0, 0)).2 (.initialized (xcl c))
theorem kI_ok : (List.range 10).all kI = true := by decide +kernel
def kN (c : Nat) (q : Nat × Nat) : Bool := decide (1 ≤ q.1) && ((decide (q.2 = 1) && decide ((xcl (q.1 - 1), xcl c) ∈ castL)) || (decide (q.2 = 0) && decide ((xcl (q.1 - 1), xcl c) ∈ ncL)))
theorem kN_ok : (List.range 14).all (fun c => (insT.getD c []).all (kN c)) = true := by decide +kernel
def nMH (c : String) : Bool := decide (c ≠ "java/lang/invoke/MethodHandle") && decide (c ≠ "java/lang/invoke/VarHandle")
def kM1 (own idx kd np : Nat) (x : MethodName) (owner : String) (q : Nat × Nat × List Nat) : Bool :=
  let y := mnm q.2.1; let ps := q.2.2; let C := xcl (q.1 - 1)
  nMH y.cls && nMH owner && decide ((parseMethodDescriptor x.desc).map (fun d => d.parameters.length) = some np) && at_ (ps.getD 2 0) (.initialized y.cls) &&
  (match kd with
  | 0 => decide (x = y) && at_ (ps.getD 0 0) (.methodLink (xcl own) idx y) && at_ (ps.getD 1 0) (.static y)
  | 1 => decide (x = y) && decide ((xcl own, idx, y) ∈ nestL) && at_ (ps.getD 1 0) (.static y)
  | 2 => decide (x = y) && at_ (ps.getD 0 0) (.methodLink (xcl own) idx y) && at_ (ps.getD 1 0) (.instanceMethod y) && decide (y.name = "<init>")
  | 3 => decide (x = y) && decide ((xcl own, idx, y) ∈ nestL) && at_ (ps.getD 1 0) (.instanceMethod y) && decide (y.name = "<init>")
  | 5 => decide (1 ≤ q.1) && decide (x = y) && at_ (ps.getD 0 0) (.methodLink (xcl own) idx y) && at_ (ps.getD 1 0) (.instanceMethod y) && at_ (ps.getD 3 0) (.selects C y y)
  | 6 => decide (1 ≤ q.1) && at_ (ps.getD 0 0) (.methodLink (xcl own) idx x) && at_ (ps.getD 1 0) (.instanceMethod y) && at_ (ps.getD 3 0) (.selects C x y) && at_ (ps.getD 4 0) (.sameMethod x.cls owner x.name x.desc) &&
      (decide ((⟨owner, x.name, x.desc⟩ : MethodName) ∈ declL) || (at_ (ps.getD 5 0) (.instanceMethod ⟨owner, x.name, x.desc⟩) && decide (mnm (ps.getD 6 0) = ⟨owner, x.name, x.desc⟩) && decide (ps.getD 6 0 < 189) && decide (ps.getD 6 0 ≠ 0)))
  | _ => false)
def kM (own : Nat) (e : Nat × Nat × Nat × Nat × MethodName × String × List (Nat × Nat × List Nat)) : Bool := (decide (e.2.1 = 7) && at_ ((e.2.2.2.2.2.2.headD (0, 0, [])).2.2.getD 0 0) (.methodLink (xcl own) e.1 Lib.Math.max.name) && at_ ((e.2.2.2.2.2.2.headD (0, 0, [])).2.2.getD 1 0) (.static Lib.Math.max.name) && at_ ((e.2.2.2.2.2.2.headD (0, 0, [])).2.2.getD 2 0) (.initialized "java/lang/Math")) || (decide (e.2.1 = 4) && at_ ((e.2.2.2.2.2.2.headD (0, 0, [])).2.2.headD 0) (.methodLink (xcl own) e.1 objectInit)) || e.2.2.2.2.2.2.all (kM1 own e.1 e.2.1 e.2.2.1 e.2.2.2.2.1 e.2.2.2.2.2.1)
theorem kM_ok : (List.range 14).all (fun own => (cpMT.getD own []).all (kM own)) = true := by decide +kernel
set_option maxRecDepth 200000 in
theorem kX2 : xtbl[530]? = some (.code Lib.Math.max.name Lib.Math.max.code 2 (some .int)) := rfl
theorem kO1 : at_ objP.1 (.instanceMethod objectInit) = true := by decide +kernel
theorem kO2 : xtbl[objP.2]? = some (.code objectInit ⟨#[0xb1]⟩ 1 none) := rfl
def cw (M : Nat) : Cond := .code (mnm M) (mby M) (mxl M) (mrt M)
set_option maxRecDepth 200000 in
theorem cw_l : ((List.range 188).map (fun i => cw (i + 1))) = (cpsL.drop 1).filterMap (fun i => xtbl[i]?) := rfl
theorem cw_in {M : Nat} (h : M < 189) (h0 : M ≠ 0) : cw M ∈ xtbl := by
  have : cw M ∈ (List.range 188).map (fun i => cw (i + 1)) := List.mem_map.mpr ⟨M - 1, List.mem_range.mpr (by omega), by rw [show M - 1 + 1 = M by omega]⟩
  rw [cw_l] at this
  obtain ⟨i, -, hi⟩ := List.mem_filterMap.mp this
  exact List.mem_of_getElem? hi
def ftT : List FieldType := [.array (.object "StepPurse$Structure"), .object "StepPurse$Book", .int, .int, .int, .long, .int, .array .int, .array .int, .array .int, .array .int, .int, .int, .object "StepPurse$Node", .int, .int, .int, .int, .object "StepPurse$Node", .object "StepPurse$Node", .int, .int, .int, .array .long, .long, .int, .object "StepPurse$Node", .object "StepPurse$Node", .object "StepPurse$Node", .int, .int, .object "StepPurse$Value", .object "StepPurse$Value", .int, .object "StepPurse$Value", .object "StepPurse$Node", .int, .array .int, .array .int, .array .long, .array .long, .array .int, .array .int, .int, .int, .array .long, .array .int, .array .int, .array .int, .array .int, .int, .int, .array .int, .array .int, .array .long, .array .int, .int, .int, .int, .array .int, .array .int, .array .int, .array .int, .array .int, .int, .int, .long, .int, .array .int, .array .int, .array .int, .array .int, .int, .int]
def ftF (f : Nat) : FieldType := ftT.getD f .int
def tyC (c : Nat) : Nat → FieldType := fun k => ftF ((ctab c).getD k 0)
theorem ty_ok : ∀ c, c < 10 → ∀ k, k < (ctab c).length → parseFieldDescriptor (cT c k).2.2.1 = some (tyC c k) := by decide +kernel
theorem nm_ok : ∀ c, c < 10 → ∀ a, a < (ctab c).length → ∀ b, b < (ctab c).length → a ≠ b → (cT c a).2.1 ≠ (cT c b).2.1 := by decide +kernel
theorem ls_ok : ∀ c, c < 10 → ∀ w ∈ u_ws (xcl c) (cT c) (ctab c).length, w ∈ xtbl := by decide +kernel
theorem lsg_ok : ∀ c, c < 10 → (u_ws (xcl c) (cT c) (ctab c).length).all goodWord = true := by decide +kernel
theorem cl_ok : ∀ c, c < 10 → xclasses[c]? = some (xcl c, cT c, (ctab c).length) := by
  intro c hc
  have : c = 0 ∨ c = 1 ∨ c = 2 ∨ c = 3 ∨ c = 4 ∨ c = 5 ∨ c = 6 ∨ c = 7 ∨ c = 8 ∨ c = 9 := by omega
  rcases this with rfl | rfl | rfl | rfl | rfl | rfl | rfl | rfl | rfl | rfl <;> rfl
theorem fk_ok : ∀ c, c < 10 → ∀ k, k < (ctab c).length → (fty ((ctab c).getD k 0) = 0 ∧ ftF ((ctab c).getD k 0) = .int) ∨ (fty ((ctab c).getD k 0) = 1 ∧ ftF ((ctab c).getD k 0) = .long) ∨ (fty ((ctab c).getD k 0) = 2 ∧ (ftF ((ctab c).getD k 0)).isReference = true) := by decide +kernel
theorem nd_ok : ∀ c, c < 10 → (ctab c).Nodup := by decide +kernel
theorem kL_ok : at_ 1231 (.constantLong "StepPurseLaw" 18 4294967295) = true := by decide +kernel
def axw : Bool := decide (Cond.arrayClass .int ∈ xtbl) && decide (Cond.arrayClass .long ∈ xtbl)
theorem axw_ok : axw = true := by decide +kernel
