theorem t_mf_mf {m : xM} {f g : Nat → Int64} : (m.s_mf f).s_mf g = m.s_mf g := id rfl
theorem t_mf_self {m : xM} : m.s_mf m.mf = m := id rfl
def nM (nf : Nat → Int64) (p q : Nat) : Int64 := nf (5 * p + q)
def sM (nf : Nat → Int64) (p : Nat) : Int64 := nf (25 + p)
/-- the sign after so many columns -/
def sgN (h : Nat) : Int32 := if h % 2 = 0 then 1 else -1
theorem x_pop : ∀ c, c < 32 → 1 ≤ c → (foldN (fun a j => a + (nI c >>> (nI j &&& 31) &&& 1)) 5 0 (-1) = nI (pcN c - 1)) ∧ (c < 16 → foldN (fun a j => a + (nI c >>> (nI j &&& 31) &&& 1)) 4 0 (-1) = nI (pcN c - 1)) := by decide +kernel
theorem x_hsg : ∀ h, h < 10 → ((nI h - nI h / 2 * 2 = 0) ↔ h % 2 = 0) ∧ -sgN h = sgN (h + 1) := by decide +kernel
theorem sg_e {h : Nat} {e : Int64} : (sgN h).toInt64 * e = if h % 2 = 0 then e else -e := by
  unfold sgN
  by_cases c : h % 2 = 0
  · rw [if_pos c, if_pos c, show (1 : Int32).toInt64 = 1 from rfl, Int64.one_mul]
  · rw [if_neg c, if_neg c, show (-1 : Int32).toInt64 = -1 from rfl, Int64.neg_mul, Int64.one_mul]
section MR6
variable {b : Nat} {m : xM} {n U : Nat} {Q : Option Value → xW → Prop}
theorem isM.mf0 {w : xW} {f : Nat → Int64} (D : isM w (m.s_mf f)) : rd w 51 = oM m ∧ rd w 56 = .inl (1, 30, .inr (.inl m.nf)) ∧ rd w 57 = .inl (1, 32, .inr (.inl f)) := by
  obtain ⟨h0, h1, -, -, -, h5, h6, -⟩ := D
  simp only [oM, s_mf_df, s_mf_wf, s_mf_st, s_mf_af, s_mf_cf, s_mf_ty, s_mf_pa, s_mf_le, s_mf_ri, s_mf_re, s_mf_rs, s_mf_nf, s_mf_wr, s_mf_wd, s_mf_mf, s_mf_vf, s_mf_be, s_mf_fa, s_mf_up, s_mf_dn] at h0 h5 h6
  exact ⟨h0, h5, h6⟩
theorem isM.mf1 {w : xW} {f g : Nat → Int64} (D : isM w (m.s_mf f)) : isM (wr w 57 (.inl (1, 32, .inr (.inl g)))) (m.s_mf g) := by
  have := D.s57 (f := g)
  rw [t_mf_mf] at this
  exact this
theorem l107p {w : xW} {q c : Int32} {v7 v8 v9 : Value} (hU : U ≤ 5) : ∀ (k j : Nat) (a : Int32), j + k = U → ((∀ x5, Wp 107 b 50 [.ref 51, .int q, .int (nI U), .int c, .int (foldN (fun a j => a + (c >>> (nI j &&& 31) &&& 1)) k j a), .int x5, x_no, v7, v8, v9, x_no] [] w Q) → Wp 107 b 27 [.ref 51, .int q, .int (nI U), .int c, .int a, .int (nI j), x_no, v7, v8, v9, x_no] [] w Q) := by
  intro k
  induction k with
  | zero =>
    intro j a hj K
    have hc : nI U ≤ nI j := nI_le (by omega) (by omega)
    simp only [q107_27, q107_29, q107_30, gF0, gF1, gF2, gF3, gF4, gF5, gF6, gF7, gF8, gF9, gF10, gF11, gF12, gF13, gF14, gF15, gF16, gF17, gF18, gF19, pF0, pF1, pF2, pF3, pF4, pF5, pF6, pF7, pF8, pF9, pF10, pF11, pF12, pF13, pF14, pF15, pF16, pF17, pF18, pF19, aI_mk, aL_mk, aA_mk, sI_mk, sL_mk, sA_mk, isO_mk, rl_some, rl_none, true_and, and_true, true_or, or_true, wr_1, if_pos hc]
    exact K _
  | succ k ih =>
    intro j a hj K
    have hc : ¬ nI U ≤ nI j := by rw [nI_le' (by omega) (by omega)]; omega
    simp only [q107_27]
    simp only [q107_29, q107_30, q107_33, q107_35, q107_36, q107_38, q107_39, q107_40, q107_41, q107_42, q107_44, q107_47, gF0, gF1, gF2, gF3, gF4, gF5, gF6, gF7, gF8, gF9, gF10, gF11, gF12, gF13, gF14, gF15, gF16, gF17, gF18, gF19, pF0, pF1, pF2, pF3, pF4, pF5, pF6, pF7, pF8, pF9, pF10, pF11, pF12, pF13, pF14, pF15, pF16, pF17, pF18, pF19, aI_mk, aL_mk, aA_mk, sI_mk, sL_mk, sA_mk, isO_mk, rl_some, rl_none, true_and, and_true, true_or, or_true, wr_1, if_neg hc, nI_1]
    exact ih (j + 1) _ (by omega) K
theorem l107c {w : xW} {f : Nat → Int64} (D : isM w (m.s_mf f)) {c row : Nat} {q : Int32} (hc : c < 32) (hrow : row < 5) : ∀ (k h : Nat) (a : Int64) (v9 : Value), h + k ≤ 5 → (∀ x7 x8 v9, Wp 107 b 152 [.ref 51, .int q, .int (nI U), .int (nI c), .int (nI row), .long (xpF (enF q (nM m.nf) (sM m.nf) row) f c k a (sgN h)), x_no, .int x7, .int x8, v9, x_no] [] w Q) → Wp 107 b 61 [.ref 51, .int q, .int (nI U), .int (nI c), .int (nI row), .long a, x_no, .int (nI h), .int (nI k - 1), v9, x_no] [] w Q := by
  obtain ⟨h0, h5, h6⟩ := D.mf0
  intro k
  induction k with
  | zero =>
    intro h a v9 hk K
    have e : nI 0 - 1 = -1 := by decide
    have hm : (-1 : Int32) < 0 := by decide
    simp only [q107_61, q107_63, gF0, gF1, gF2, gF3, gF4, gF5, gF6, gF7, gF8, gF9, gF10, gF11, gF12, gF13, gF14, gF15, gF16, gF17, gF18, gF19, pF0, pF1, pF2, pF3, pF4, pF5, pF6, pF7, pF8, pF9, pF10, pF11, pF12, pF13, pF14, pF15, pF16, pF17, pF18, pF19, aI_mk, aL_mk, aA_mk, sI_mk, sL_mk, sA_mk, isO_mk, rl_some, rl_none, true_and, and_true, true_or, or_true, wr_1, e, if_pos hm]
    exact K _ _ _
  | succ k ih =>
    intro h a v9 hk K
    have e : nI (k + 1) - 1 = nI k := nI_pred k
    have hm : ¬ nI k < 0 := nI_pos (by omega)
    obtain ⟨b1, b2⟩ := x_bits c hc k (by omega)
    have e2 : nI k + Int32.ofInt (-1) = nI k - 1 := by
      rw [show Int32.ofInt (-1) = -1 from rfl, Int32.sub_eq_add_neg]
    rw [e]
    simp only [q107_61]
    simp only [q107_63, q107_66, q107_67, q107_69, q107_70, q107_71, q107_72, q107_73, gF0, gF1, gF2, gF3, gF4, gF5, gF6, gF7, gF8, gF9, gF10, gF11, gF12, gF13, gF14, gF15, gF16, gF17, gF18, gF19, pF0, pF1, pF2, pF3, pF4, pF5, pF6, pF7, pF8, pF9, pF10, pF11, pF12, pF13, pF14, pF15, pF16, pF17, pF18, pF19, aI_mk, aL_mk, aA_mk, sI_mk, sL_mk, sA_mk, isO_mk, rl_some, rl_none, true_and, and_true, true_or, or_true, wr_1, if_neg hm]
    by_cases hb : c / 2 ^ k % 2 = 1
    · have ex : xpF (enF q (nM m.nf) (sM m.nf) row) f c (k + 1) a (sgN h) = xpF (enF q (nM m.nf) (sM m.nf) row) f c k (a + (sgN h).toInt64 * enF q (nM m.nf) (sM m.nf) row k * f (c - 2 ^ k)) (-sgN h) := if_pos hb
      obtain ⟨g1, g2⟩ := x_hsg h (by omega)
      rw [ex, g2, sg_e] at K
      have hle : c - 2 ^ k ≤ c := Nat.sub_le _ _
      have hz : x_pl (nI (c - 2 ^ k)) 32 := x_pl_nI (by omega) (by omega)
      have hzl : (nI (c - 2 ^ k)).toNatClampNeg = c - 2 ^ k := cl_nI (by omega)
      simp only [b1.mpr hb, not_true, if_false]
      have z2 : ¬ (2 : Int32) = 0 := by decide
      by_cases hq : nI k = q
      · subst hq
        have en : enF (nI k) (nM m.nf) (sM m.nf) row k = m.nf (25 + row) := if_pos rfl
        rw [en] at K
        by_cases hh : h % 2 = 0
        · rw [if_pos hh] at K
          simp only [q107_76, q107_78, q107_79, q107_82, q107_83, q107_86, q107_88, q107_90, q107_91, q107_92, q107_95, q107_96, q107_99, q107_100, q107_102, q107_103, q107_105, q107_106, q107_107, q107_109, q107_111, q107_113, q107_114, q107_115, q107_118, q107_120, q107_123, q107_125, q107_126, q107_127, q107_130, q107_131, q107_132, q107_134, q107_135, q107_136, q107_137, q107_138, q107_139, q107_140, q107_141, q107_143, q107_146, q107_149, gF0, gF1, gF2, gF3, gF4, gF5, gF6, gF7, gF8, gF9, gF10, gF11, gF12, gF13, gF14, gF15, gF16, gF17, gF18, gF19, pF0, pF1, pF2, pF3, pF4, pF5, pF6, pF7, pF8, pF9, pF10, pF11, pF12, pF13, pF14, pF15, pF16, pF17, pF18, pF19, aI_mk, aL_mk, aA_mk, sI_mk, sL_mk, sA_mk, isO_mk, rl_some, rl_none, true_and, and_true, true_or, or_true, wr_1, h0, oM, h5, h6, not_true, if_false, ix25 hrow, g1, hh, b2 hb, hz, hzl, e2, nI_1, z2, not_false_eq_true]
          exact ih (h + 1) _ _ (by omega) K
        · rw [if_neg hh] at K
          simp only [q107_76, q107_78, q107_79, q107_82, q107_83, q107_86, q107_88, q107_90, q107_91, q107_92, q107_95, q107_96, q107_99, q107_100, q107_102, q107_103, q107_105, q107_106, q107_107, q107_109, q107_111, q107_113, q107_114, q107_115, q107_118, q107_120, q107_123, q107_125, q107_126, q107_127, q107_130, q107_131, q107_132, q107_134, q107_135, q107_136, q107_137, q107_138, q107_139, q107_140, q107_141, q107_143, q107_146, q107_149, gF0, gF1, gF2, gF3, gF4, gF5, gF6, gF7, gF8, gF9, gF10, gF11, gF12, gF13, gF14, gF15, gF16, gF17, gF18, gF19, pF0, pF1, pF2, pF3, pF4, pF5, pF6, pF7, pF8, pF9, pF10, pF11, pF12, pF13, pF14, pF15, pF16, pF17, pF18, pF19, aI_mk, aL_mk, aA_mk, sI_mk, sL_mk, sA_mk, isO_mk, rl_some, rl_none, true_and, and_true, true_or, or_true, wr_1, h0, oM, h5, h6, not_true, if_false, ix25 hrow, g1, hh, b2 hb, hz, hzl, e2, nI_1, z2, not_false_eq_true, if_true]
          exact ih (h + 1) _ _ (by omega) K
      · have en : enF q (nM m.nf) (sM m.nf) row k = m.nf (5 * row + k) := if_neg hq
        rw [en] at K
        by_cases hh : h % 2 = 0
        · rw [if_pos hh] at K
          simp only [q107_76, q107_78, q107_79, q107_82, q107_83, q107_86, q107_88, q107_90, q107_91, q107_92, q107_95, q107_96, q107_99, q107_100, q107_102, q107_103, q107_105, q107_106, q107_107, q107_109, q107_111, q107_113, q107_114, q107_115, q107_118, q107_120, q107_123, q107_125, q107_126, q107_127, q107_130, q107_131, q107_132, q107_134, q107_135, q107_136, q107_137, q107_138, q107_139, q107_140, q107_141, q107_143, q107_146, q107_149, gF0, gF1, gF2, gF3, gF4, gF5, gF6, gF7, gF8, gF9, gF10, gF11, gF12, gF13, gF14, gF15, gF16, gF17, gF18, gF19, pF0, pF1, pF2, pF3, pF4, pF5, pF6, pF7, pF8, pF9, pF10, pF11, pF12, pF13, pF14, pF15, pF16, pF17, pF18, pF19, aI_mk, aL_mk, aA_mk, sI_mk, sL_mk, sA_mk, isO_mk, rl_some, rl_none, true_and, and_true, true_or, or_true, wr_1, h0, oM, h5, h6, hq, not_false_eq_true, if_true, ix5 hrow (show k < 5 by omega), g1, hh, b2 hb, hz, hzl, e2, nI_1, not_true, if_false, z2]
          exact ih (h + 1) _ _ (by omega) K
        · rw [if_neg hh] at K
          simp only [q107_76, q107_78, q107_79, q107_82, q107_83, q107_86, q107_88, q107_90, q107_91, q107_92, q107_95, q107_96, q107_99, q107_100, q107_102, q107_103, q107_105, q107_106, q107_107, q107_109, q107_111, q107_113, q107_114, q107_115, q107_118, q107_120, q107_123, q107_125, q107_126, q107_127, q107_130, q107_131, q107_132, q107_134, q107_135, q107_136, q107_137, q107_138, q107_139, q107_140, q107_141, q107_143, q107_146, q107_149, gF0, gF1, gF2, gF3, gF4, gF5, gF6, gF7, gF8, gF9, gF10, gF11, gF12, gF13, gF14, gF15, gF16, gF17, gF18, gF19, pF0, pF1, pF2, pF3, pF4, pF5, pF6, pF7, pF8, pF9, pF10, pF11, pF12, pF13, pF14, pF15, pF16, pF17, pF18, pF19, aI_mk, aL_mk, aA_mk, sI_mk, sL_mk, sA_mk, isO_mk, rl_some, rl_none, true_and, and_true, true_or, or_true, wr_1, h0, oM, h5, h6, hq, not_false_eq_true, if_true, ix5 hrow (show k < 5 by omega), g1, hh, b2 hb, hz, hzl, e2, nI_1, z2]
          exact ih (h + 1) _ _ (by omega) K
    · have ex : xpF (enF q (nM m.nf) (sM m.nf) row) f c (k + 1) a (sgN h) = xpF (enF q (nM m.nf) (sM m.nf) row) f c k a (sgN h) := if_neg hb
      rw [ex] at K
      have hb2 : ¬ nI c >>> (nI k &&& 31) &&& 1 = 1 := fun z => hb (b1.mp z)
      simp only [hb2, not_false_eq_true, if_true]
      simp only [q107_146, q107_149, gF0, gF1, gF2, gF3, gF4, gF5, gF6, gF7, gF8, gF9, gF10, gF11, gF12, gF13, gF14, gF15, gF16, gF17, gF18, gF19, pF0, pF1, pF2, pF3, pF4, pF5, pF6, pF7, pF8, pF9, pF10, pF11, pF12, pF13, pF14, pF15, pF16, pF17, pF18, pF19, aI_mk, aL_mk, aA_mk, sI_mk, sL_mk, sA_mk, isO_mk, rl_some, rl_none, true_and, and_true, true_or, or_true, wr_1, e2]
      exact ih h a v9 (by omega) K
theorem l107 (hU : U = 4 ∨ U = 5) {q : Int32} : ∀ (k c : Nat) (w : xW) (f : Nat → Int64) (x4 x5 x7 x8 x9 : Value), c + k = 2 ^ U → 1 ≤ c → isM w (m.s_mf f) → (∀ j, j < c → f j = mnT U (enF q (nM m.nf) (sM m.nf)) j j) → (∀ w2 f2, fr w w2 51 60 → isM w2 (m.s_mf f2) → Q (some (.long (dtF U (enF q (nM m.nf) (sM m.nf))))) w2) → Wp 107 b 14 [.ref 51, .int q, .int (nI U), .int (nI c), x4, x5, x_no, x7, x8, x9, x_no] [] w Q := by
  have hP : 2 ^ U ≤ 32 := by rcases hU with rfl | rfl <;> decide
  have hP1 : 1 ≤ 2 ^ U := by rcases hU with rfl | rfl <;> decide
  have eP : (1 : Int32) <<< (nI U &&& 31) = nI (2 ^ U) := by rcases hU with rfl | rfl <;> decide
  intro k
  induction k with
  | zero =>
    intro c w f x4 x5 x7 x8 x9 hc1 h1c D e1 K
    have hc : nI (2 ^ U) ≤ nI c := nI_le (by omega) (by omega)
    obtain ⟨h0, h5, h6⟩ := D.mf0
    have e : nI (2 ^ U) - 1 = nI (2 ^ U - 1) := pk_sub (b := 1) hP1
    have hx : x_pl (nI (2 ^ U - 1)) 32 := x_pl_nI (by omega) (by omega)
    have hcl : (nI (2 ^ U - 1)).toNatClampNeg = 2 ^ U - 1 := cl_nI (by omega)
    simp only [q107_14, q107_15, q107_16, q107_17, q107_18, q107_166, q107_167, q107_170, q107_171, q107_172, q107_173, q107_174, q107_175, q107_176, gF0, gF1, gF2, gF3, gF4, gF5, gF6, gF7, gF8, gF9, gF10, gF11, gF12, gF13, gF14, gF15, gF16, gF17, gF18, gF19, pF0, pF1, pF2, pF3, pF4, pF5, pF6, pF7, pF8, pF9, pF10, pF11, pF12, pF13, pF14, pF15, pF16, pF17, pF18, pF19, aI_mk, aL_mk, aA_mk, sI_mk, sL_mk, sA_mk, isO_mk, rl_some, rl_none, true_and, and_true, true_or, or_true, wr_1, eP, if_pos hc, h0, oM, h6, e, hx, hcl]
    rw [e1 (2 ^ U - 1) (by omega)]
    exact K w f fr.rf D
  | succ k ih =>
    intro c w f x4 x5 x7 x8 x9 hc1 h1c D e1 K
    have hc : ¬ nI (2 ^ U) ≤ nI c := by rw [nI_le' (by omega) (by omega)]; omega
    obtain ⟨h0, h5, h6⟩ := D.mf0
    have hx : x_pl (nI c) 32 := x_pl_nI (by omega) (by omega)
    have hcl : (nI c).toNatClampNeg = c := cl_nI (by omega)
    have c32 : c < 32 := by omega
    obtain ⟨p5, p4⟩ := x_pop c c32 h1c
    obtain ⟨-, y2, y3, -⟩ := x_bc c c32
    have y2 := y2 (by omega)
    have pe : foldN (fun a j => a + (nI c >>> (nI j &&& 31) &&& 1)) U 0 (-1) = nI (pcN c - 1) := by
      rcases hU with rfl | rfl
      · exact p4 (by omega)
      · exact p5
    have U5 : U ≤ 5 := by omega
    simp only [q107_14]
    simp only [q107_15, q107_16, q107_17, q107_18, q107_21, q107_22, q107_24, q107_25, gF0, gF1, gF2, gF3, gF4, gF5, gF6, gF7, gF8, gF9, gF10, gF11, gF12, gF13, gF14, gF15, gF16, gF17, gF18, gF19, pF0, pF1, pF2, pF3, pF4, pF5, pF6, pF7, pF8, pF9, pF10, pF11, pF12, pF13, pF14, pF15, pF16, pF17, pF18, pF19, aI_mk, aL_mk, aA_mk, sI_mk, sL_mk, sA_mk, isO_mk, rl_some, rl_none, true_and, and_true, true_or, or_true, wr_1, eP, if_neg hc]
    refine l107p U5 U 0 _ (Nat.zero_add _) (fun x5 => ?_)
    rw [pe]
    simp only [q107_50, q107_51, q107_53, q107_54, q107_56, q107_57, q107_58, q107_59]
    refine l107c D c32 (show pcN c - 1 < 5 by omega) U 0 0 _ (by omega) (fun x7 x8 v9 => ?_)
    simp only [q107_152, q107_153, q107_156, q107_157, q107_159, q107_160, q107_163, gF0, gF1, gF2, gF3, gF4, gF5, gF6, gF7, gF8, gF9, gF10, gF11, gF12, gF13, gF14, gF15, gF16, gF17, gF18, gF19, pF0, pF1, pF2, pF3, pF4, pF5, pF6, pF7, pF8, pF9, pF10, pF11, pF12, pF13, pF14, pF15, pF16, pF17, pF18, pF19, aI_mk, aL_mk, aA_mk, sI_mk, sL_mk, sA_mk, isO_mk, rl_some, rl_none, true_and, and_true, true_or, or_true, wr_1, h0, oM, h6, hx, hcl, nI_1]
    refine ih (c + 1) _ _ _ _ _ _ _ (by omega) (by omega) D.mf1 (fun j hj => ?_) (fun w2 f2 e2 => K w2 f2 ((fr.wr (by omega) (by omega)).tr e2))
    by_cases e : j = c
    · subst e
      rw [pk_uLs]
      obtain ⟨c', rfl⟩ : ∃ c', j = c' + 1 := ⟨j - 1, by omega⟩
      show _ = vp_updL (mnT U (enF q (nM m.nf) (sM m.nf)) c') (c' + 1) _ (c' + 1)
      rw [pk_uLs]
      refine xpF_congr U 0 1 (fun _ _ => rfl) (fun i hi hb => ?_)
      have hpos : 1 ≤ 2 ^ i := Nat.one_le_two_pow
      rw [e1 _ (by omega), mnT_at U _ c' _ (by omega)]
    · rw [pk_uLn e]
      exact e1 j (by omega)
theorem c107 {w : xW} (D : isM w m) (hp : 4 + m.df 1 = nI U) (hU : U = 4 ∨ U = 5) {q : Int32} (K : ∀ w2 f2, fr w w2 51 60 → isM w2 (m.s_mf f2) → Q (some (.long (dtF U (enF q (nM m.nf) (sM m.nf))))) w2) : Wp 107 b 0 [.ref 51, .int q, x_no, x_no, x_no, x_no, x_no, x_no, x_no, x_no, x_no] [] w Q := by
  rw [← t_mf_self (m := m)] at D
  obtain ⟨h0, h5, h6⟩ := D.mf0
  have p0 : x_pl 0 32 := x_pl_nI (j := 0) (by omega) (by omega)
  have hP1 : 1 ≤ 2 ^ U := by rcases hU with rfl | rfl <;> decide
  simp only [q107_0, q107_1, q107_4, q107_5, q107_6, q107_9, q107_10, q107_11, q107_12, q107_13, gF0, gF1, gF2, gF3, gF4, gF5, gF6, gF7, gF8, gF9, gF10, gF11, gF12, gF13, gF14, gF15, gF16, gF17, gF18, gF19, pF0, pF1, pF2, pF3, pF4, pF5, pF6, pF7, pF8, pF9, pF10, pF11, pF12, pF13, pF14, pF15, pF16, pF17, pF18, pF19, aI_mk, aL_mk, aA_mk, sI_mk, sL_mk, sA_mk, isO_mk, rl_some, rl_none, true_and, and_true, true_or, or_true, wr_1, h0, oM, h6, c102 D, s_mf_df, s_mf_wf, s_mf_st, s_mf_af, s_mf_cf, s_mf_ty, s_mf_pa, s_mf_le, s_mf_ri, s_mf_re, s_mf_rs, s_mf_nf, s_mf_wr, s_mf_wd, s_mf_mf, s_mf_vf, s_mf_be, s_mf_fa, s_mf_up, s_mf_dn, hp, p0, Int32.reduceToNatClampNeg]
  refine l107 hU (2 ^ U - 1) 1 _ _ _ _ _ _ _ (by omega) (Nat.le_refl 1) D.mf1 (fun j hj => ?_) (fun w2 f2 e2 => K w2 f2 ((fr.wr (by omega) (by omega)).tr e2))
  rw [show j = 0 by omega, pk_uLs]
  rfl
end MR6
