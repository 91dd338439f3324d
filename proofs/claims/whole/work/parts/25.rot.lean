-- turning over, turning up: over pictures, and in the reference
def rot (P : PT) (n : Nat) : PT :=
  let p := P.2.2 n
  let g := P.2.2 p
  let Q := if P.1 p = n then str (stl P p (P.2.1 n)) n p else stl (str P p (P.1 n)) n p
  let Z : PT := (Q.1, Q.2.1, u1 Q.2.2 n g)
  if g = 0 then Z else if Z.1 g = p then (u1 Z.1 g n, Z.2.1, Z.2.2) else (Z.1, u1 Z.2.1 g n, Z.2.2)
theorem u1_le {f : Nat → Nat} {B a v : Nat} (h : ∀ n, f n ≤ B) (hv : v ≤ B) : ∀ n, u1 f a v n ≤ B := by
  intro n
  unfold u1
  split
  · exact hv
  · exact h n
theorem BP_mk {l r u : Nat → Nat} (h1 : ∀ n, l n ≤ 20002) (h2 : ∀ n, r n ≤ 20002) (h3 : ∀ n, u n ≤ 20002) : BP (l, r, u) := fun n => ⟨h1 n, h2 n, h3 n⟩
theorem BP_stl {P : PT} (h : BP P) {p c : Nat} (hp : p ≤ 20002) (hc : c ≤ 20002) : BP (stl P p c) := by
  refine BP_mk (u1_le (fun n => (h n).1) hc) (fun n => (h n).2.1) ?_
  intro n
  split
  · exact (h n).2.2
  · exact u1_le (fun n => (h n).2.2) hp n
theorem BP_str {P : PT} (h : BP P) {p c : Nat} (hp : p ≤ 20002) (hc : c ≤ 20002) : BP (str P p c) := by
  refine BP_mk (fun n => (h n).1) (u1_le (fun n => (h n).2.1) hc) ?_
  intro n
  split
  · exact (h n).2.2
  · exact u1_le (fun n => (h n).2.2) hp n
theorem BP_rot {P : PT} (h : BP P) {n : Nat} (hn : n ≤ 20002) : BP (rot P n) := by
  have hp := (h n).2.2
  have hg := (h (P.2.2 n)).2.2
  have hQ : BP (if P.1 (P.2.2 n) = n then str (stl P (P.2.2 n) (P.2.1 n)) n (P.2.2 n) else stl (str P (P.2.2 n) (P.1 n)) n (P.2.2 n)) := by
    split
    · exact BP_str (BP_stl h hp (h n).2.1) hn hp
    · exact BP_stl (BP_str h hp (h n).1) hn hp
  unfold rot
  dsimp only
  generalize (if P.1 (P.2.2 n) = n then str (stl P (P.2.2 n) (P.2.1 n)) n (P.2.2 n) else stl (str P (P.2.2 n) (P.1 n)) n (P.2.2 n)) = Q at hQ
  split
  · exact BP_mk (fun x => (hQ x).1) (fun x => (hQ x).2.1) (u1_le (fun x => (hQ x).2.2) hg)
  · split
    · exact BP_mk (u1_le (fun x => (hQ x).1) hn) (fun x => (hQ x).2.1) (u1_le (fun x => (hQ x).2.2) hg)
    · exact BP_mk (fun x => (hQ x).1) (u1_le (fun x => (hQ x).2.1) hn) (u1_le (fun x => (hQ x).2.2) hg)
section Rot
variable (L : Nat) (xs : Nat → Int32)
theorem sub1 {n : Nat} (h : 1 ≤ n) : n - 1 + 1 = n := by omega
theorem m_69_61 {h : AH} (hb : MB h) (Q : PT) {n p g : Nat} (hQ : BP Q) (hn : 1 ≤ n) (hn2 : n ≤ 20002) (hp : p ≤ 20002) (hg : g ≤ 20002) : X L xs 69 61 [.ref 8, .int (en n), .int (en p), .int (en g)] [] (pm h Q) = some (pm h (if g = 0 then (Q.1, Q.2.1, u1 Q.2.2 n g) else if Q.1 g = p then (u1 Q.1 g n, Q.2.1, u1 Q.2.2 n g) else (Q.1, u1 Q.2.1 g n, u1 Q.2.2 n g)), none) := by
  obtain ⟨b1, b2, b3, b4⟩ := hb
  simp only [k_69_61, Hpm, b1, b2, b3, b4, HF10, gd_t, inb_en hn hn2 (by decide), cl_en hn (by omega), pm_su h Q hn, decide_true, Bool.and_self, k_69_68]
  by_cases h0 : g = 0
  · subst h0
    simp only [en_0, if_true, k_69_100]
  · have g1 : 1 ≤ g := by omega
    rw [if_neg (fun z => h0 ((en_m1 (by omega)).mp z))]
    simp only [k_69_73, Hpm, b1, b2, b3, b4, HF10, gd_t, inb_en g1 hg (by decide), cl_en g1 (by omega), decide_true, Bool.and_self, sub1 g1, h0, if_false]
    have hQg := (hQ g).1
    by_cases h1 : Q.1 g = p
    · rw [if_neg (fun z => z ((en_inj (by omega) (by omega)).mpr h1))]
      simp only [k_69_83, Hpm, b1, b2, b3, b4, HF10, gd_t, inb_en g1 hg (by decide), cl_en g1 (by omega), decide_true, Bool.and_self, pm_sl h _ g1, k_69_90, k_69_100, h1, if_true]
    · rw [if_pos (fun z => h1 ((en_inj (by omega) (by omega)).mp z))]
      simp only [k_69_93, Hpm, b1, b2, b3, b4, HF10, gd_t, inb_en g1 hg (by decide), cl_en g1 (by omega), decide_true, Bool.and_self, pm_sr h _ g1, k_69_100, h1, if_false]
/-- turnOver -/
theorem m_69 {h : AH} (hb : MB h) (P : PT) {n : Nat} (hP : BP P) (hn : 1 ≤ n) (hn2 : n ≤ 20002) (hu : P.2.2 n ≠ 0) : XM L xs 69 [.ref 8, .int (en n)] (pm h P) = some (pm h (rot P n), none) := by
  have hb' := hb
  obtain ⟨b1, b2, b3, b4⟩ := hb
  have p1 : 1 ≤ P.2.2 n := by omega
  have p2 := (hP n).2.2
  have g2 := (hP (P.2.2 n)).2.2
  have l2 := (hP (P.2.2 n)).1
  have l3 := (hP n).1
  have r3 := (hP n).2.1
  rw [en_69, k_69_0]
  simp only [Hpm, b1, b2, b3, b4, HF10, gd_t, inb_en hn hn2 (by decide), cl_en hn (by omega), decide_true, Bool.and_self, sub1 hn, inb_en p1 p2 (by decide), cl_en p1 (by omega), sub1 p1]
  by_cases h1 : P.1 (P.2.2 n) = n
  · rw [if_neg (fun z => z ((en_inj (by omega) (by omega)).mpr h1))]
    simp only [k_69_24, Hpm, b1, b2, b3, b4, HF10, gd_t, inb_en hn hn2 (by decide), cl_en hn (by omega), decide_true, Bool.and_self, sub1 hn, HQ, HZ, cc_9_133_10, m_67 L xs hb' _ p1 p2 r3, bV_s, cc_9_137_10, m_68 L xs hb' _ hn hn2 p2, m_69_61 L xs hb' _ (BP_str (BP_stl hP p2 r3) hn2 p2) hn hn2 p2 g2]
    unfold rot
    simp only [h1, if_true]
  · rw [if_pos (fun z => h1 ((en_inj (by omega) (by omega)).mp z))]
    simp only [k_69_44, Hpm, b1, b2, b3, b4, HF10, gd_t, inb_en hn hn2 (by decide), cl_en hn (by omega), decide_true, Bool.and_self, sub1 hn, HQ, HZ, cc_9_137_10, m_68 L xs hb' _ p1 p2 l3, bV_s, cc_9_133_10, m_67 L xs hb' _ hn hn2 p2, m_69_61 L xs hb' _ (BP_stl (BP_str hP p2 l3) hn2 p2) hn hn2 p2 g2]
    unfold rot
    simp only [h1, if_false]
end Rot
