-- bring, of trees: a new node
theorem hgP_hang {c2 : CS} {P : PT} {ck : Nat → Int64} {s n x : Nat} {k : Int64} (hP : c2.P = (u1 P.1 x 0, u1 P.2.1 x 0, u1 P.2.2 x 0)) (hk : c2.ck = u1 ck x k) (hl : c2.la s = n) (n0 : n ≠ 0) (x0 : x ≠ 0) (nx : n ≠ x) : hgP c2 s x = hang P n x (decide (k < ck n)) := by
  obtain ⟨y1, y2⟩ := hang_e P n x n0 x0
  unfold hgP
  rw [hl, hk, u1_s, u1_o _ _ nx, hP]
  by_cases g : k < ck n
  · rw [if_pos g, decide_eq_true g, y1]
  · rw [if_neg g, decide_eq_false g, y2]
section Brt3
variable (L : Nat) (xs : Nat → Int32)
/-- the reference, where a node comes -/
theorem ins_new {m : MS} {c : CS} {d : DS} {B : AH} {T z : Nat → Nat} {V R : Nat → List Nat} {FN FI : List Nat} {ow : Nat → Nat} (hj : JJ m c d B T z V R FN FI ow) {s : Nat} (hs : s < m.K) (hk : m.kd s ≤ 1) (hE : m.E < 20000) (k : Int64) (v : Int32) {n g2 : Nat} (hn : (gT c.ck c.P k 20003 (c.ro s)).1 = n) (hg : (gT c.ck c.P k 20003 (c.ro s)).2 = g2) (nb : n ≤ 20002) (tn : n ≠ 0 → T n = s + 1) (hkn : n ≠ 0 → c.ck n ≠ k) :
    ∀ h, MB h → ∃ q, XM L xs 74 [.ref 8, .int (nI s), .long k, .int v] (ml h m) = gd (decide ((8 : Nat) ≠ 0) && decide (catS [] ≤ 8)) (bV (cfD (XM L xs) 9 169 (tg (ml h ((mNl (m.ssp g2) s n k v.toInt64 (decide (k < c.ck n)) (g2 + 1)).sW q)) 8) [.ref 8, .int (nI s), .int (en (mid m))] (ml h ((mNl (m.ssp g2) s n k v.toInt64 (decide (k < c.ck n)) (g2 + 1)).sW q))) fun h3 => gd (decide ((8 : Nat) ≠ 0) && decide (catS [] ≤ 8)) (bV (cfD (XM L xs) 9 172 (tg h3 8) [.ref 8, .int (nI s), .int (prT (c.he s))] h3) fun h4 => some (h4, some (.int (nI 1))))) := by
  intro h hh
  obtain ⟨jb, js, jt, jr, jp, jd, jv, ji, jf, jw, jh, jz, jl⟩ := id hj
  obtain ⟨FI', ⟨i1, i2, i3⟩, -, -, -, -, -, -, -, -, i12, i13⟩ := item_new ji hE
  obtain ⟨FN', ⟨o1, o2, o3⟩, -, -, -, -, -, -, -, -, o12, o13⟩ := node_new hj hE
  obtain ⟨b1, b2, b3, b4⟩ := id hh
  have hs40 : s < 40 := by have := hj.K; omega
  have hs31 : s < 2 ^ 31 := by omega
  obtain ⟨q, hq⟩ := ins_go L xs hj hs hk k v hn hg nb h hh
  refine ⟨q, ?_⟩
  have x1 : 1 ≤ mid m := by omega
  have x2 : mid m ≤ 20002 := by omega
  -- the last lines, at a state whose node has no value yet
  have fin : ∀ (M : MS) (l7 : Value), M.fV (mid m) = 0 → M.im < 20002 → M.fi ≤ 20002 → iid M = iid m → X L xs 74 129 [.ref 8, .int (nI s), .long k, .null, .int v, .int (prT (c.he s)), .int (en (mid m)), l7] [] (ml h (M.sW q)) = gd (decide ((8 : Nat) ≠ 0) && decide (catS [] ≤ 8)) (bV (cfD (XM L xs) 9 169 (tg (ml h ((mAdd M (mid m) v.toInt64).sW q)) 8) [.ref 8, .int (nI s), .int (en (mid m))] (ml h ((mAdd M (mid m) v.toInt64).sW q))) fun h3 => gd (decide ((8 : Nat) ≠ 0) && decide (catS [] ≤ 8)) (bV (cfD (XM L xs) 9 172 (tg h3 8) [.ref 8, .int (nI s), .int (prT (c.he s))] h3) fun h4 => some (h4, some (.int (nI 1))))) := by
    intro M l7 hf him hfi hii
    rw [k_74_129]
    have e56 := m_56 L xs hh (M.sW q) x1 x2 v him hfi (by show M.fV (mid m) ≤ 20002; omega) (fun g => absurd hf g)
    have eq56 : mAdd (M.sW q) (mid m) v.toInt64 = (mAdd M (mid m) v.toInt64).sW q := by
      rw [HmAdd0 (M := M.sW q) hf, HmAdd0 hf]
      rfl
    rw [eq56] at e56
    have hA := HmAd0 hf v.toInt64
    have hfv : (mAdd M (mid m) v.toInt64).fV (mid m) = iid m := by simp only [hA, u1_s, hii]
    have e57 := m_57 L xs hh ((mAdd M (mid m) v.toInt64).sW q) x1 x2 (l := [iid m]) (by
      show Chn (mAdd M (mid m) v.toInt64).nx ((mAdd M (mid m) v.toInt64).fV (mid m)) [iid m]
      rw [hfv]
      refine ⟨rfl, i1, ?_⟩
      simp only [hA, hii, u1_s]
      rfl) (fun a ha => by rw [List.mem_singleton] at ha; omega)
    simp only [Hml, b1, b2, b3, b4, HF10, gd_t, decide_true, Bool.and_self, HQ, HZ, cc_9_163_10, e56, bV_s, cc_9_166_10, e57, bI_s]
    rfl
  have hN := HmNew (m.ssp g2) k
  have emid : mid ((m.ssp g2).sW q) = mid m := rfl
  have e52 := m_52 L xs hh ((m.ssp g2).sW q) k o12 o13
  have eq52 : mNew ((m.ssp g2).sW q) k = (mNew (m.ssp g2) k).sW q := rfl
  rw [eq52, emid] at e52
  rw [hq, show mNl (m.ssp g2) s n k v.toInt64 (decide (k < c.ck n)) (g2 + 1) = mAdd (mHg (mNew (m.ssp g2) k) (u1 m.rt s (mid m)) (if decide (k < c.ck n) then stl (mNew (m.ssp g2) k).P n (mid m) else str (mNew (m.ssp g2) k).P n (mid m)) n (g2 + 1)) (mid m) v.toInt64 from rfl]
  by_cases n0 : n = 0
  · have hf : (mHg (mNew (m.ssp g2) k) (u1 m.rt s (mid m)) (if decide (k < c.ck n) then stl (mNew (m.ssp g2) k).P n (mid m) else str (mNew (m.ssp g2) k).P n (mid m)) n (g2 + 1)).fV (mid m) = 0 := by
      simp only [HmHg]; exact u1_s _ _ _
    have eM : mHg (mNew (m.ssp g2) k) (u1 m.rt s (mid m)) (if decide (k < c.ck n) then stl (mNew (m.ssp g2) k).P n (mid m) else str (mNew (m.ssp g2) k).P n (mid m)) n (g2 + 1) = (mNew (m.ssp g2) k).srt (u1 m.rt s (mid m)) := if_pos n0
    have := fin _ .null hf (by simp only [HmHg]; exact i12) (by simp only [HmHg]; exact i13) (by simp only [HmHg]; rfl)
    refine Eq.trans ?_ this
    rw [if_pos n0, k_74_47]
    simp only [Hml, b1, b2, b3, b4, HF10, gd_t, decide_true, Bool.and_self, HQ, HZ, cc_9_160_10, e52, bI_s, inb_nI hs40 (by decide), nI_clamp hs31, ml_rt]
    rw [k_74_62, eM]
    rfl
  · have tn' := tn n0
    have tn0 : T n ≠ 0 := by rw [tn']; exact Nat.succ_ne_zero s
    have nx : n ≠ mid m := fun g => by rw [g, o3] at tn0; exact tn0 rfl
    have pc := jp.2 n tn0
    have hf : (mHg (mNew (m.ssp g2) k) (u1 m.rt s (mid m)) (if decide (k < c.ck n) then stl (mNew (m.ssp g2) k).P n (mid m) else str (mNew (m.ssp g2) k).P n (mid m)) n (g2 + 1)).fV (mid m) = 0 := by
      simp only [HmHg]; exact u1_s _ _ _
    have eM : mHg (mNew (m.ssp g2) k) (u1 m.rt s (mid m)) (if decide (k < c.ck n) then stl (mNew (m.ssp g2) k).P n (mid m) else str (mNew (m.ssp g2) k).P n (mid m)) n (g2 + 1) = ((mNew (m.ssp g2) k).ssp (g2 + 1)).sP (if decide (k < c.ck n) then stl (mNew (m.ssp g2) k).P n (mid m) else str (mNew (m.ssp g2) k).P n (mid m)) := if_neg n0
    refine Eq.trans ?_ (fin _ (.int (en (mid m))) hf (by simp only [HmHg]; exact i12) (by simp only [HmHg]; exact i13) (by simp only [HmHg]; rfl))
    rw [if_neg n0, k_74_65]
    simp only [Hml, b1, b2, b3, b4, HF10, gd_t, decide_true, Bool.and_self, HQ, HZ, SWq, Ssp, inb_en (show 1 ≤ n by omega) nb (by decide), cl_en (show 1 ≤ n by omega) (show n < 2 ^ 31 by omega), show n - 1 + 1 = n from by omega, pc.2.2.1, lg_cmp_eq, hkn n0, if_false]
    rw [k_74_77]
    have esp : ((mNew (m.ssp g2) k).sW q).sp = g2 := rfl
    simp only [Hml, b1, b2, b3, b4, HF10, gd_t, decide_true, Bool.and_self, HQ, HZ, cc_9_160_10, e52, bI_s, esp, nI_1, ml_sp]
    rw [k_74_94]
    have eky : (((mNew (m.ssp g2) k).sW q).ssp (g2 + 1)).ky n = c.ck n := by
      show u1 m.ky (mid m) k n = c.ck n
      rw [u1_o _ _ nx]; exact pc.2.2.1
    simp only [Hml, b1, b2, b3, b4, HF10, gd_t, decide_true, Bool.and_self, HQ, HZ, inb_en (show 1 ≤ n by omega) nb (by decide), cl_en (show 1 ≤ n by omega) (show n < 2 ^ 31 by omega), show n - 1 + 1 = n from by omega, eky]
    by_cases g : k < c.ck n
    · have e67 := m_67' L xs hh (((mNew (m.ssp g2) k).sW q).ssp (g2 + 1)) (show 1 ≤ n by omega) nb x2
      have e67 : XM L xs 67 [.ref 8, .int (en n), .int (en (mid m))] (ml h (((mNew (m.ssp g2) k).sW q).ssp (g2 + 1))) = some (ml h ((((mNew (m.ssp g2) k).ssp (g2 + 1)).sP (stl (mNew (m.ssp g2) k).P n (mid m))).sW q), none) := e67
      rw [if_neg (fun w => by rw [lg_cmp_ge] at w; exact Int64.lt_irrefl (Int64.lt_of_lt_of_le g w)), k_74_106, eM, decide_eq_true g]
      simp only [Hml, b1, b2, b3, b4, HF10, gd_t, decide_true, Bool.and_self, HQ, HZ, cc_9_133_10, e67, bV_s]
      rw [k_74_125]
      rfl
    · have e68 := m_68' L xs hh (((mNew (m.ssp g2) k).sW q).ssp (g2 + 1)) (show 1 ≤ n by omega) nb x2
      have e68 : XM L xs 68 [.ref 8, .int (en n), .int (en (mid m))] (ml h (((mNew (m.ssp g2) k).sW q).ssp (g2 + 1))) = some (ml h ((((mNew (m.ssp g2) k).ssp (g2 + 1)).sP (str (mNew (m.ssp g2) k).P n (mid m))).sW q), none) := e68
      rw [if_pos (by rw [lg_cmp_ge]; exact i64_le g), k_74_117, eM, decide_eq_false g]
      simp only [Hml, b1, b2, b3, b4, HF10, gd_t, decide_true, Bool.and_self, HQ, HZ, cc_9_137_10, e68, bV_s]
      rw [k_74_125]
      rfl
end Brt3
