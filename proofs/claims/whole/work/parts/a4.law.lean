-- one call of the law's loop
section Law
variable (L : Nat) (xs : Nat → Int32)
theorem inb_k {i k : Nat} (hk : (k : Nat) ≤ 4) {v : Int32} (hv : v = nI k) (hi : i + 5 ≤ L) (hL : L ≤ 2560) : inb (nI i + v) L = true := by
  rw [hv, nI_add]
  exact inb_nI (by omega) (by omega)
set_option maxHeartbeats 8000000 in
theorem law_step {j : Nat} {B : AH} {m : MS} {c : CS} {d : DS} (hI : Inv j B m c d) {i : Nat} (hi : i + 5 ≤ L) (hL : L ≤ 2560) : ∃ (B' : AH) (m' : MS) (c' : CS) (d' : DS), X L xs 0 26 [.retAddr 0, .ref 1, .ref 8, .int (nI i)] [] (cl B d c) = X L xs 0 1092 [.retAddr 0, .ref 1, .ref 8, .int (nI i)] [] (cl B' d' c') ∧ Inv (j + 1) B' m' c' d' := by
  obtain ⟨e0, ja, jq, T, z, V, R, FN, FI, ow, hj⟩ := id hI
  obtain ⟨p1, p2, p3, p4⟩ := id hj.1.1
  have i0 : inb (nI i) L = true := inb_nI (by omega) (by omega)
  have i1 : inb (nI i + 1) L = true := inb_k L (k := 1) (by decide) nI_1c hi hL
  have i2 : inb (nI i + (2 : Int32)) L = true := inb_k L (k := 2) (by decide) nI_2c hi hL
  have i3 : inb (nI i + (3 : Int32)) L = true := inb_k L (k := 3) (by decide) (by decide +kernel) hi hL
  have i4 : inb (nI i + (4 : Int32)) L = true := inb_k L (k := 4) (by decide) (by decide +kernel) hi hL
  have t8 : ∀ {B' : AH} {m' : MS} {c' : CS} {d' : DS}, Inv (j + 1) (ml B' m') m' c' d' → tg B' 8 = 10 := fun h => by
    obtain ⟨_, _, _, T, z, V, R, FN, FI, ow, hj⟩ := h
    exact hj.1.2.1.1
  rw [k_0_26]
  simp only [gd_t, i0]
  generalize hw : (xs (nI i).toNatClampNeg) &&& (31 : Int32) = w
  have none : X L xs 0 1092 [.retAddr 0, .ref 1, .ref 8, .int (nI i)] [] (cl B d c) = X L xs 0 1092 [.retAddr 0, .ref 1, .ref 8, .int (nI i)] [] (cl B d c) := rfl
  rcases sw_c w (n := 22) (by decide) with ⟨k, hk, rfl⟩ | g
  · clear hw
    match k, hk with
    | 0, _ =>
      obtain ⟨B', c', d', m', r, a1, a2, a3, a4⟩ := q_make L xs hI ((xs (nI i + 1).toNatClampNeg))
      obtain ⟨x, rfl⟩ := vk_int a4
      refine ⟨ml B' m', m', c', d', ?_, a3⟩
      rw [show swp 32 1060 0 22 #[108, 131, 204, 277, 340, 403, 466, 529, 592, 625, 648, 681, 744, 767, 801, 815, 828, 861, 904, 947, 981, 1014, 1037] (nI 0) = 140 from by decide +kernel, k_0_140]
      simp only [Hcl, p1, t8 a3, gd_t, decide_true, Bool.and_self, HQ, HZ, i1, i2, i3, i4, cc_12_13_1, a1, bI_s, cc_12_17_10, a2]
      exact if_pos trivial
    | 1, _ =>
      obtain ⟨B', c', d', m', r, a1, a2, a3, a4⟩ := q_insert L xs hI ((xs (nI i + 1).toNatClampNeg)) ((((xs (nI i + (2 : Int32)).toNatClampNeg).toInt64 <<< ((32 : Int32).toInt64 &&& 63)) ||| ((xs (nI i + (3 : Int32)).toNatClampNeg).toInt64 &&& (4294967295 : Int64)))) ((xs (nI i + (4 : Int32)).toNatClampNeg))
      obtain ⟨x, rfl⟩ := vk_int a4
      refine ⟨ml B' m', m', c', d', ?_, a3⟩
      rw [show swp 32 1060 0 22 #[108, 131, 204, 277, 340, 403, 466, 529, 592, 625, 648, 681, 744, 767, 801, 815, 828, 861, 904, 947, 981, 1014, 1037] (nI 1) = 163 from by decide +kernel, k_0_163]
      simp only [Hcl, p1, t8 a3, gd_t, decide_true, Bool.and_self, HQ, HZ, i1, i2, i3, i4, cc_12_20_1, a1, bI_s, cc_12_24_10, a2]
      exact if_pos trivial
    | 2, _ =>
      obtain ⟨B', c', d', m', r, a1, a2, a3, a4⟩ := q_rise L xs hI ((xs (nI i + 1).toNatClampNeg)) ((((xs (nI i + (2 : Int32)).toNatClampNeg).toInt64 <<< ((32 : Int32).toInt64 &&& 63)) ||| ((xs (nI i + (3 : Int32)).toNatClampNeg).toInt64 &&& (4294967295 : Int64)))) ((xs (nI i + (4 : Int32)).toNatClampNeg))
      obtain ⟨x, rfl⟩ := vk_int a4
      refine ⟨ml B' m', m', c', d', ?_, a3⟩
      rw [show swp 32 1060 0 22 #[108, 131, 204, 277, 340, 403, 466, 529, 592, 625, 648, 681, 744, 767, 801, 815, 828, 861, 904, 947, 981, 1014, 1037] (nI 2) = 236 from by decide +kernel, k_0_236]
      simp only [Hcl, p1, t8 a3, gd_t, decide_true, Bool.and_self, HQ, HZ, i1, i2, i3, i4, cc_12_25_1, a1, bI_s, cc_12_28_10, a2]
      exact if_pos trivial
    | 3, _ =>
      obtain ⟨B', c', d', m', r, a1, a2, a3, a4⟩ := q_find L xs hI ((xs (nI i + 1).toNatClampNeg)) ((((xs (nI i + (2 : Int32)).toNatClampNeg).toInt64 <<< ((32 : Int32).toInt64 &&& 63)) ||| ((xs (nI i + (3 : Int32)).toNatClampNeg).toInt64 &&& (4294967295 : Int64))))
      obtain ⟨x, rfl⟩ := vk_int a4
      refine ⟨ml B' m', m', c', d', ?_, a3⟩
      rw [show swp 32 1060 0 22 #[108, 131, 204, 277, 340, 403, 466, 529, 592, 625, 648, 681, 744, 767, 801, 815, 828, 861, 904, 947, 981, 1014, 1037] (nI 3) = 309 from by decide +kernel, k_0_309]
      simp only [Hcl, p1, t8 a3, gd_t, decide_true, Bool.and_self, HQ, HZ, i1, i2, i3, i4, cc_12_29_1, a1, bI_s, cc_12_33_10, a2]
      exact if_pos trivial
    | 4, _ =>
      obtain ⟨B', c', d', m', r, a1, a2, a3, a4⟩ := q_drop L xs hI ((xs (nI i + 1).toNatClampNeg)) ((((xs (nI i + (2 : Int32)).toNatClampNeg).toInt64 <<< ((32 : Int32).toInt64 &&& 63)) ||| ((xs (nI i + (3 : Int32)).toNatClampNeg).toInt64 &&& (4294967295 : Int64))))
      obtain ⟨x, rfl⟩ := vk_int a4
      refine ⟨ml B' m', m', c', d', ?_, a3⟩
      rw [show swp 32 1060 0 22 #[108, 131, 204, 277, 340, 403, 466, 529, 592, 625, 648, 681, 744, 767, 801, 815, 828, 861, 904, 947, 981, 1014, 1037] (nI 4) = 372 from by decide +kernel, k_0_372]
      simp only [Hcl, p1, t8 a3, gd_t, decide_true, Bool.and_self, HQ, HZ, i1, i2, i3, i4, cc_12_34_1, a1, bI_s, cc_12_37_10, a2]
      exact if_pos trivial
    | 5, _ =>
      obtain ⟨B', c', d', m', r, a1, a2, a3, a4⟩ := q_below L xs hI ((xs (nI i + 1).toNatClampNeg)) ((((xs (nI i + (2 : Int32)).toNatClampNeg).toInt64 <<< ((32 : Int32).toInt64 &&& 63)) ||| ((xs (nI i + (3 : Int32)).toNatClampNeg).toInt64 &&& (4294967295 : Int64))))
      obtain ⟨x, rfl⟩ := vk_int a4
      refine ⟨ml B' m', m', c', d', ?_, a3⟩
      rw [show swp 32 1060 0 22 #[108, 131, 204, 277, 340, 403, 466, 529, 592, 625, 648, 681, 744, 767, 801, 815, 828, 861, 904, 947, 981, 1014, 1037] (nI 5) = 435 from by decide +kernel, k_0_435]
      simp only [Hcl, p1, t8 a3, gd_t, decide_true, Bool.and_self, HQ, HZ, i1, i2, i3, i4, cc_12_38_1, a1, bI_s, cc_12_41_10, a2]
      exact if_pos trivial
    | 6, _ =>
      obtain ⟨B', c', d', m', r, a1, a2, a3, a4⟩ := q_above L xs hI ((xs (nI i + 1).toNatClampNeg)) ((((xs (nI i + (2 : Int32)).toNatClampNeg).toInt64 <<< ((32 : Int32).toInt64 &&& 63)) ||| ((xs (nI i + (3 : Int32)).toNatClampNeg).toInt64 &&& (4294967295 : Int64))))
      obtain ⟨x, rfl⟩ := vk_int a4
      refine ⟨ml B' m', m', c', d', ?_, a3⟩
      rw [show swp 32 1060 0 22 #[108, 131, 204, 277, 340, 403, 466, 529, 592, 625, 648, 681, 744, 767, 801, 815, 828, 861, 904, 947, 981, 1014, 1037] (nI 6) = 498 from by decide +kernel, k_0_498]
      simp only [Hcl, p1, t8 a3, gd_t, decide_true, Bool.and_self, HQ, HZ, i1, i2, i3, i4, cc_12_42_1, a1, bI_s, cc_12_45_10, a2]
      exact if_pos trivial
    | 7, _ =>
      obtain ⟨B', c', d', m', r, a1, a2, a3, a4⟩ := q_split L xs hI ((xs (nI i + 1).toNatClampNeg)) ((((xs (nI i + (2 : Int32)).toNatClampNeg).toInt64 <<< ((32 : Int32).toInt64 &&& 63)) ||| ((xs (nI i + (3 : Int32)).toNatClampNeg).toInt64 &&& (4294967295 : Int64))))
      obtain ⟨x, rfl⟩ := vk_int a4
      refine ⟨ml B' m', m', c', d', ?_, a3⟩
      rw [show swp 32 1060 0 22 #[108, 131, 204, 277, 340, 403, 466, 529, 592, 625, 648, 681, 744, 767, 801, 815, 828, 861, 904, 947, 981, 1014, 1037] (nI 7) = 561 from by decide +kernel, k_0_561]
      simp only [Hcl, p1, t8 a3, gd_t, decide_true, Bool.and_self, HQ, HZ, i1, i2, i3, i4, cc_12_46_1, a1, bI_s, cc_12_49_10, a2]
      exact if_pos trivial
    | 8, _ =>
      obtain ⟨B', c', d', m', r, a1, a2, a3, a4⟩ := q_join L xs hI ((xs (nI i + 1).toNatClampNeg)) ((xs (nI i + (2 : Int32)).toNatClampNeg))
      obtain ⟨x, rfl⟩ := vk_int a4
      refine ⟨ml B' m', m', c', d', ?_, a3⟩
      rw [show swp 32 1060 0 22 #[108, 131, 204, 277, 340, 403, 466, 529, 592, 625, 648, 681, 744, 767, 801, 815, 828, 861, 904, 947, 981, 1014, 1037] (nI 8) = 624 from by decide +kernel, k_0_624]
      simp only [Hcl, p1, t8 a3, gd_t, decide_true, Bool.and_self, HQ, HZ, i1, i2, i3, i4, cc_12_50_1, a1, bI_s, cc_12_54_10, a2]
      exact if_pos trivial
    | 9, _ =>
      obtain ⟨B', c', d', m', r, a1, a2, a3, a4⟩ := q_pop L xs hI ((xs (nI i + 1).toNatClampNeg))
      obtain ⟨x, rfl⟩ := vk_int a4
      refine ⟨ml B' m', m', c', d', ?_, a3⟩
      rw [show swp 32 1060 0 22 #[108, 131, 204, 277, 340, 403, 466, 529, 592, 625, 648, 681, 744, 767, 801, 815, 828, 861, 904, 947, 981, 1014, 1037] (nI 9) = 657 from by decide +kernel, k_0_657]
      simp only [Hcl, p1, t8 a3, gd_t, decide_true, Bool.and_self, HQ, HZ, i1, i2, i3, i4, cc_12_55_1, a1, bI_s, cc_12_58_10, a2]
      exact if_pos trivial
    | 10, _ =>
      obtain ⟨B', c', d', m', r, a1, a2, a3, a4⟩ := q_meld L xs hI ((xs (nI i + 1).toNatClampNeg)) ((xs (nI i + (2 : Int32)).toNatClampNeg))
      obtain ⟨x, rfl⟩ := vk_int a4
      refine ⟨ml B' m', m', c', d', ?_, a3⟩
      rw [show swp 32 1060 0 22 #[108, 131, 204, 277, 340, 403, 466, 529, 592, 625, 648, 681, 744, 767, 801, 815, 828, 861, 904, 947, 981, 1014, 1037] (nI 10) = 680 from by decide +kernel, k_0_680]
      simp only [Hcl, p1, t8 a3, gd_t, decide_true, Bool.and_self, HQ, HZ, i1, i2, i3, i4, cc_12_59_1, a1, bI_s, cc_12_62_10, a2]
      exact if_pos trivial
    | 11, _ =>
      obtain ⟨B', c', d', m', r, a1, a2, a3, a4⟩ := q_push L xs hI ((xs (nI i + 1).toNatClampNeg)) ((((xs (nI i + (2 : Int32)).toNatClampNeg).toInt64 <<< ((32 : Int32).toInt64 &&& 63)) ||| ((xs (nI i + (3 : Int32)).toNatClampNeg).toInt64 &&& (4294967295 : Int64))))
      obtain ⟨x, rfl⟩ := vk_int a4
      refine ⟨ml B' m', m', c', d', ?_, a3⟩
      rw [show swp 32 1060 0 22 #[108, 131, 204, 277, 340, 403, 466, 529, 592, 625, 648, 681, 744, 767, 801, 815, 828, 861, 904, 947, 981, 1014, 1037] (nI 11) = 713 from by decide +kernel, k_0_713]
      simp only [Hcl, p1, t8 a3, gd_t, decide_true, Bool.and_self, HQ, HZ, i1, i2, i3, i4, cc_12_63_1, a1, bI_s, cc_12_66_10, a2]
      exact if_pos trivial
    | 12, _ =>
      obtain ⟨B', c', d', m', r, a1, a2, a3, a4⟩ := q_pull L xs hI ((xs (nI i + 1).toNatClampNeg))
      obtain ⟨x, rfl⟩ := vk_int a4
      refine ⟨ml B' m', m', c', d', ?_, a3⟩
      rw [show swp 32 1060 0 22 #[108, 131, 204, 277, 340, 403, 466, 529, 592, 625, 648, 681, 744, 767, 801, 815, 828, 861, 904, 947, 981, 1014, 1037] (nI 12) = 776 from by decide +kernel, k_0_776]
      simp only [Hcl, p1, t8 a3, gd_t, decide_true, Bool.and_self, HQ, HZ, i1, i2, i3, i4, cc_12_67_1, a1, bI_s, cc_12_70_10, a2]
      exact if_pos trivial
    | 13, _ =>
      obtain ⟨B', c', d', m', r, a1, a2, a3, a4⟩ := q_at L xs hI ((xs (nI i + 1).toNatClampNeg)) ((xs (nI i + (2 : Int32)).toNatClampNeg))
      obtain ⟨x, rfl⟩ := vk_long a4
      refine ⟨ml B' m', m', c', d', ?_, a3⟩
      rw [show swp 32 1060 0 22 #[108, 131, 204, 277, 340, 403, 466, 529, 592, 625, 648, 681, 744, 767, 801, 815, 828, 861, 904, 947, 981, 1014, 1037] (nI 13) = 799 from by decide +kernel, k_0_799]
      simp only [Hcl, p1, t8 a3, gd_t, decide_true, Bool.and_self, HQ, HZ, i1, i2, i3, i4, cc_12_71_1, a1, bL_s, cc_12_75_10, a2, lg_cmp_eq]
      exact if_pos trivial
    | 14, _ =>
      obtain ⟨B', c', d', m', r, a1, a2, a3, a4⟩ := q_fk L xs hI
      obtain ⟨x, rfl⟩ := vk_long a4
      refine ⟨ml B' m', m', c', d', ?_, a3⟩
      rw [show swp 32 1060 0 22 #[108, 131, 204, 277, 340, 403, 466, 529, 592, 625, 648, 681, 744, 767, 801, 815, 828, 861, 904, 947, 981, 1014, 1037] (nI 14) = 833 from by decide +kernel, k_0_833]
      simp only [Hcl, p1, t8 a3, gd_t, decide_true, Bool.and_self, HQ, HZ, i1, i2, i3, i4, cc_12_76_1, a1, bL_s, cc_12_80_10, a2, lg_cmp_eq]
      exact if_pos trivial
    | 15, _ =>
      obtain ⟨B', c', d', m', r, a1, a2, a3, a4⟩ := q_fv L xs hI
      obtain ⟨x, rfl⟩ := vk_int a4
      refine ⟨ml B' m', m', c', d', ?_, a3⟩
      rw [show swp 32 1060 0 22 #[108, 131, 204, 277, 340, 403, 466, 529, 592, 625, 648, 681, 744, 767, 801, 815, 828, 861, 904, 947, 981, 1014, 1037] (nI 15) = 847 from by decide +kernel, k_0_847]
      simp only [Hcl, p1, t8 a3, gd_t, decide_true, Bool.and_self, HQ, HZ, i1, i2, i3, i4, cc_12_81_1, a1, bI_s, cc_12_85_10, a2]
      exact if_pos trivial
    | 16, _ =>
      obtain ⟨B', c', d', m', r, a1, a2, a3, a4⟩ := q_about L xs hI ((xs (nI i + 1).toNatClampNeg)) ((xs (nI i + (2 : Int32)).toNatClampNeg))
      obtain ⟨x, rfl⟩ := vk_int a4
      refine ⟨ml B' m', m', c', d', ?_, a3⟩
      rw [show swp 32 1060 0 22 #[108, 131, 204, 277, 340, 403, 466, 529, 592, 625, 648, 681, 744, 767, 801, 815, 828, 861, 904, 947, 981, 1014, 1037] (nI 16) = 860 from by decide +kernel, k_0_860]
      simp only [Hcl, p1, t8 a3, gd_t, decide_true, Bool.and_self, HQ, HZ, i1, i2, i3, i4, cc_12_86_1, a1, bI_s, cc_12_89_10, a2]
      exact if_pos trivial
    | 17, _ =>
      obtain ⟨B', c', d', m', r, a1, a2, a3, a4⟩ := q_price L xs hI ((xs (nI i + 1).toNatClampNeg)) ((xs (nI i + (2 : Int32)).toNatClampNeg)) ((xs (nI i + (3 : Int32)).toNatClampNeg))
      obtain ⟨x, rfl⟩ := vk_int a4
      refine ⟨ml B' m', m', c', d', ?_, a3⟩
      rw [show swp 32 1060 0 22 #[108, 131, 204, 277, 340, 403, 466, 529, 592, 625, 648, 681, 744, 767, 801, 815, 828, 861, 904, 947, 981, 1014, 1037] (nI 17) = 893 from by decide +kernel, k_0_893]
      simp only [Hcl, p1, t8 a3, gd_t, decide_true, Bool.and_self, HQ, HZ, i1, i2, i3, i4, cc_12_90_1, a1, bI_s, cc_12_94_10, a2]
      exact if_pos trivial
    | 18, _ =>
      obtain ⟨B', c', d', m', r, a1, a2, a3, a4⟩ := q_node L xs hI ((xs (nI i + 1).toNatClampNeg)) ((xs (nI i + (2 : Int32)).toNatClampNeg)) ((xs (nI i + (3 : Int32)).toNatClampNeg))
      obtain ⟨x, rfl⟩ := vk_int a4
      refine ⟨ml B' m', m', c', d', ?_, a3⟩
      rw [show swp 32 1060 0 22 #[108, 131, 204, 277, 340, 403, 466, 529, 592, 625, 648, 681, 744, 767, 801, 815, 828, 861, 904, 947, 981, 1014, 1037] (nI 18) = 936 from by decide +kernel, k_0_936]
      simp only [Hcl, p1, t8 a3, gd_t, decide_true, Bool.and_self, HQ, HZ, i1, i2, i3, i4, cc_12_95_1, a1, bI_s, cc_12_98_10, a2]
      exact if_pos trivial
    | 19, _ =>
      obtain ⟨B', c', d', m', r, a1, a2, a3, a4⟩ := q_nodeKey L xs hI ((xs (nI i + 1).toNatClampNeg)) ((xs (nI i + (2 : Int32)).toNatClampNeg))
      obtain ⟨x, rfl⟩ := vk_long a4
      refine ⟨ml B' m', m', c', d', ?_, a3⟩
      rw [show swp 32 1060 0 22 #[108, 131, 204, 277, 340, 403, 466, 529, 592, 625, 648, 681, 744, 767, 801, 815, 828, 861, 904, 947, 981, 1014, 1037] (nI 19) = 979 from by decide +kernel, k_0_979]
      simp only [Hcl, p1, t8 a3, gd_t, decide_true, Bool.and_self, HQ, HZ, i1, i2, i3, i4, cc_12_99_1, a1, bL_s, cc_12_102_10, a2, lg_cmp_eq]
      exact if_pos trivial
    | 20, _ =>
      obtain ⟨B', c', d', m', r, a1, a2, a3, a4⟩ := q_ledger L xs hI ((xs (nI i + 1).toNatClampNeg)) ((xs (nI i + (2 : Int32)).toNatClampNeg))
      obtain ⟨x, rfl⟩ := vk_int a4
      refine ⟨ml B' m', m', c', d', ?_, a3⟩
      rw [show swp 32 1060 0 22 #[108, 131, 204, 277, 340, 403, 466, 529, 592, 625, 648, 681, 744, 767, 801, 815, 828, 861, 904, 947, 981, 1014, 1037] (nI 20) = 1013 from by decide +kernel, k_0_1013]
      simp only [Hcl, p1, t8 a3, gd_t, decide_true, Bool.and_self, HQ, HZ, i1, i2, i3, i4, cc_12_103_1, a1, bI_s, cc_12_106_10, a2]
      exact if_pos trivial
    | 21, _ =>
      obtain ⟨B', c', d', m', r, a1, a2, a3, a4⟩ := q_spread L xs hI ((xs (nI i + 1).toNatClampNeg))
      obtain ⟨x, rfl⟩ := vk_int a4
      refine ⟨ml B' m', m', c', d', ?_, a3⟩
      rw [show swp 32 1060 0 22 #[108, 131, 204, 277, 340, 403, 466, 529, 592, 625, 648, 681, 744, 767, 801, 815, 828, 861, 904, 947, 981, 1014, 1037] (nI 21) = 1046 from by decide +kernel, k_0_1046]
      simp only [Hcl, p1, t8 a3, gd_t, decide_true, Bool.and_self, HQ, HZ, i1, i2, i3, i4, cc_12_107_1, a1, bI_s, cc_12_110_10, a2]
      exact if_pos trivial
    | 22, _ =>
      obtain ⟨B', c', d', m', r, a1, a2, a3, a4⟩ := q_count L xs hI ((xs (nI i + 1).toNatClampNeg))
      obtain ⟨x, rfl⟩ := vk_int a4
      refine ⟨ml B' m', m', c', d', ?_, a3⟩
      rw [show swp 32 1060 0 22 #[108, 131, 204, 277, 340, 403, 466, 529, 592, 625, 648, 681, 744, 767, 801, 815, 828, 861, 904, 947, 981, 1014, 1037] (nI 22) = 1069 from by decide +kernel, k_0_1069]
      simp only [Hcl, p1, t8 a3, gd_t, decide_true, Bool.and_self, HQ, HZ, i1, i2, i3, i4, cc_12_111_1, a1, bI_s, cc_12_114_10, a2]
      exact if_pos trivial
    | k + 23, hk => exact absurd hk (by omega)
  · have g : w.toInt < 0 ∨ (22 : Int) < w.toInt := g
    refine ⟨B, m, c, d, ?_, hI.up⟩
    rw [swp_d g, show tgt 32 1060 = 1092 from by decide +kernel]
end Law
