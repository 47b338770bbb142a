theorem x_d1 : ∀ a, a < 7 → (a ≠ 0 → 0 < (nI a).toInt64.toInt) ∧ ∀ c, c < 7 → a ≠ 0 → c ≠ 0 → 0 < (2 * (nI a).toInt64 * (nI c).toInt64).toInt := by decide +kernel
section MRK
variable {b : Nat} {m : xM} {n len : Nat} {Q : Option Value → xW → Prop}
theorem c121 {w : xW} (D : isM w m) (v : vM m.df n) {r k : Int32} (K0 : ¬ ((¬ r < 0 ∧ r < nI n) ∧ ¬ k < 0 ∧ k < tD m.df r.toNatClampNeg) → Q (some (.int (-2000000001))) w) (K : ∀ i j, i < n → j < tkF (tD m.df) i → r = nI i → k = nI j → Q (some (.int (mD m.df (6 * i + j)))) w) : Wp 121 b 0 [.ref 51, .int r, .int k] [] w Q := by
  have h0 := D.1
  have h1 := D.2.1
  have hn := v.2.1
  have z1 : ¬ (1 : Int32) = 0 := by decide
  by_cases c1 : (¬ r < 0 ∧ r < nI n) ∧ ¬ k < 0 ∧ k < tD m.df r.toNatClampNeg
  · obtain ⟨i, hi, er⟩ := row_of hn c1.1.1 c1.1.2
    have hcl : (nI i).toNatClampNeg = i := cl_nI (by omega)
    obtain ⟨t1, t2⟩ := v.2.2 i hi
    have c1' := c1.2
    rw [er, hcl, t1] at c1'
    obtain ⟨j, hj, ek⟩ := row_of (n := tkF (tD m.df) i) (by omega) c1'.1 c1'.2
    have KK := K i j hi hj er ek
    simp only [q121_0, q121_1, q121_2, q121_3, q121_6, gF0, gF1, gF2, gF3, gF4, gF5, gF6, gF7, gF8, gF9, gF10, gF11, gF12, gF13, gF14, gF15, gF16, gF17, gF18, gF19, pF0, pF1, pF2, pF3, pF4, pF5, pF6, pF7, pF8, pF9, pF10, pF11, pF12, pF13, pF14, pF15, pF16, pF17, pF18, pF19, aI_mk, aL_mk, aA_mk, sI_mk, sL_mk, sA_mk, isO_mk, rl_some, rl_none, true_and, and_true, true_or, or_true, wr_1, c95 D v, bI_t c1, z1, if_false, h0, oM]
    subst er
    subst ek
    simp only [q121_9, q121_10, q121_13, q121_15, q121_17, q121_18, q121_19, q121_20, q121_21, q121_22, q121_23, q121_26, q121_28, gF0, gF1, gF2, gF3, gF4, gF5, gF6, gF7, gF8, gF9, gF10, gF11, gF12, gF13, gF14, gF15, gF16, gF17, gF18, gF19, pF0, pF1, pF2, pF3, pF4, pF5, pF6, pF7, pF8, pF9, pF10, pF11, pF12, pF13, pF14, pF15, pF16, pF17, pF18, pF19, aI_mk, aL_mk, aA_mk, sI_mk, sL_mk, sA_mk, isO_mk, rl_some, rl_none, true_and, and_true, true_or, or_true, wr_1, h0, oM, h1, ix40 (show i < 12 by omega) (show j < 6 by omega)]
    exact KK
  · have := K0 c1
    simp only [q121_0, q121_1, q121_2, q121_3, q121_6, q121_26, q121_28, gF0, gF1, gF2, gF3, gF4, gF5, gF6, gF7, gF8, gF9, gF10, gF11, gF12, gF13, gF14, gF15, gF16, gF17, gF18, gF19, pF0, pF1, pF2, pF3, pF4, pF5, pF6, pF7, pF8, pF9, pF10, pF11, pF12, pF13, pF14, pF15, pF16, pF17, pF18, pF19, aI_mk, aL_mk, aA_mk, sI_mk, sL_mk, sA_mk, isO_mk, rl_some, rl_none, true_and, and_true, true_or, or_true, wr_1, c95 D v, bI_f c1, if_true, h0, oM]
    exact this
theorem c122 {w : xW} (D : isM w m) (v : vM m.df n) {x y : Int32} (K0 : ¬ ((1 ≤ x ∧ x ≤ 31) ∧ 1 ≤ y ∧ y ≤ 31) → Q (some (.int (-2000000001))) w) (K : ((1 ≤ x ∧ x ≤ 31) ∧ 1 ≤ y ∧ y ≤ 31) → Q (some (.int (nfF (fndN (fun j => decide (lD m.df j = x ∧ rD m.df j = y)) n 0)))) w) : Wp 122 b 0 [.ref 51, .int x, .int y, x_no] [] w Q := by
  have h0 := D.1
  have z1 : ¬ (1 : Int32) = 0 := by decide
  by_cases c1 : 1 ≤ x ∧ x ≤ 31
  · by_cases c2 : 1 ≤ y ∧ y ≤ 31
    · have KK := K ⟨c1, c2⟩
      simp only [q122_0, q122_1, q122_4, q122_7, q122_8, q122_11, q122_14, q122_16, q122_17, q122_18, q122_19, q122_20, q122_23, q122_24, q122_25, q122_26, q122_29, q122_31, q122_34, q122_35, gF0, gF1, gF2, gF3, gF4, gF5, gF6, gF7, gF8, gF9, gF10, gF11, gF12, gF13, gF14, gF15, gF16, gF17, gF18, gF19, pF0, pF1, pF2, pF3, pF4, pF5, pF6, pF7, pF8, pF9, pF10, pF11, pF12, pF13, pF14, pF15, pF16, pF17, pF18, pF19, aI_mk, aL_mk, aA_mk, sI_mk, sL_mk, sA_mk, isO_mk, rl_some, rl_none, true_and, and_true, true_or, or_true, wr_1, c96, bI_t c1, bI_t c2, z1, if_false, not_false_eq_true, if_true, h0, oM, c112 D v]
      unfold nfF at KK
      by_cases c3 : fndN (fun j => decide (lD m.df j = x ∧ rD m.df j = y)) n 0 = -1
      · rw [if_pos c3] at KK
        simp only [c3, not_true, if_false]
        exact KK
      · rw [if_neg c3] at KK
        simp only [c3, not_false_eq_true, if_true]
        exact KK
    · have := K0 (fun q => c2 q.2)
      simp only [q122_0, q122_1, q122_4, q122_7, q122_8, q122_11, q122_14, q122_16, gF0, gF1, gF2, gF3, gF4, gF5, gF6, gF7, gF8, gF9, gF10, gF11, gF12, gF13, gF14, gF15, gF16, gF17, gF18, gF19, pF0, pF1, pF2, pF3, pF4, pF5, pF6, pF7, pF8, pF9, pF10, pF11, pF12, pF13, pF14, pF15, pF16, pF17, pF18, pF19, aI_mk, aL_mk, aA_mk, sI_mk, sL_mk, sA_mk, isO_mk, rl_some, rl_none, true_and, and_true, true_or, or_true, wr_1, c96, bI_t c1, bI_f c2, z1, if_false, not_true]
      exact this
  · have := K0 (fun q => c1 q.1)
    simp only [q122_0, q122_1, q122_4, q122_7, q122_8, q122_11, q122_14, q122_16, gF0, gF1, gF2, gF3, gF4, gF5, gF6, gF7, gF8, gF9, gF10, gF11, gF12, gF13, gF14, gF15, gF16, gF17, gF18, gF19, pF0, pF1, pF2, pF3, pF4, pF5, pF6, pF7, pF8, pF9, pF10, pF11, pF12, pF13, pF14, pF15, pF16, pF17, pF18, pF19, aI_mk, aL_mk, aA_mk, sI_mk, sL_mk, sA_mk, isO_mk, rl_some, rl_none, true_and, and_true, true_or, or_true, wr_1, c96, bI_f c1, if_true]
    exact this
theorem c143 {w : xW} {c : Int32} (D : isM w m) (h80 : m.ty ≤ 80) (K0 : ¬ (32 ≤ c ∧ c ≤ 126) → Q (some (.int (-2000000001))) w) (K1 : (32 ≤ c ∧ c ≤ 126) → m.ty = 80 → Q (some (.int (-2000000003))) w) (K : ∀ w2, (32 ≤ c ∧ c ≤ 126) → m.ty < 80 → fr w w2 51 60 → isM w2 ((m.s_cf (upd m.cf m.ty (vp_nar .char (c.toUInt32 % 65536).toInt32))).s_ty (m.ty + 1)) → Q (some (.int (nI (m.ty + 1)))) w2) : Wp 143 b 0 [.ref 51, .int c] [] w Q := by
  have h0 := D.1
  have h4 := D.2.2.2.2.1
  have z1 : ¬ (1 : Int32) = 0 := by decide
  have e80 : nI m.ty = 80 ↔ m.ty = 80 := nI_eq' (b := 80) (by omega) (by omega)
  by_cases c1 : 32 ≤ c ∧ c ≤ 126
  · by_cases c2 : m.ty = 80
    · have := K1 c1 c2
      have e80' := e80.mpr c2
      simp only [q143_0, q143_1, q143_3, q143_5, q143_8, q143_11, q143_13, q143_14, q143_15, q143_18, q143_20, q143_23, q143_25, gF0, gF1, gF2, gF3, gF4, gF5, gF6, gF7, gF8, gF9, gF10, gF11, gF12, gF13, gF14, gF15, gF16, gF17, gF18, gF19, pF0, pF1, pF2, pF3, pF4, pF5, pF6, pF7, pF8, pF9, pF10, pF11, pF12, pF13, pF14, pF15, pF16, pF17, pF18, pF19, aI_mk, aL_mk, aA_mk, sI_mk, sL_mk, sA_mk, isO_mk, rl_some, rl_none, true_and, and_true, true_or, or_true, wr_1, c93, bI_t c1, z1, not_false_eq_true, if_true, h0, oM, e80', not_true, if_false]
      exact this
    · have hx : x_pl (nI m.ty) 80 := x_pl_nI (by omega) (by omega)
      have hcl : (nI m.ty).toNatClampNeg = m.ty := cl_nI (by omega)
      have D1 := (D.s55 (f := upd m.cf m.ty (vp_nar .char (c.toUInt32 % 65536).toInt32))).o_ty (m.ty + 1)
      have KK := K _ c1 (by omega) ((fr.wr (by omega) (by omega)).tr (fr.wr (by omega) (by omega))) D1
      simp only [s_cf_df, s_cf_wf, s_cf_st, s_cf_af, s_cf_cf, s_cf_ty, s_cf_pa, s_cf_le, s_cf_ri, s_cf_re, s_cf_rs, s_cf_nf, s_cf_wr, s_cf_wd, s_cf_mf, s_cf_vf, s_cf_be, s_cf_fa, s_cf_up, s_cf_dn] at KK
      have n51 : ¬ 51 = 55 := by omega
      simp only [q143_0, q143_1, q143_3, q143_5, q143_8, q143_11, q143_13, q143_14, q143_15, q143_18, q143_20, q143_23, q143_25, q143_26, q143_27, q143_30, q143_31, q143_34, q143_35, q143_36, q143_37, q143_38, q143_39, q143_42, q143_43, q143_44, q143_47, q143_48, q143_51, gF0, gF1, gF2, gF3, gF4, gF5, gF6, gF7, gF8, gF9, gF10, gF11, gF12, gF13, gF14, gF15, gF16, gF17, gF18, gF19, pF0, pF1, pF2, pF3, pF4, pF5, pF6, pF7, pF8, pF9, pF10, pF11, pF12, pF13, pF14, pF15, pF16, pF17, pF18, pF19, aI_mk, aL_mk, aA_mk, sI_mk, sL_mk, sA_mk, isO_mk, rl_some, rl_none, true_and, and_true, true_or, or_true, wr_1, c93, bI_t c1, z1, not_false_eq_true, if_true, h0, oM, e80, c2, h4, hx, hcl, rd_wr, n51, if_false, nI_1]
      exact KK
  · have := K0 c1
    simp only [q143_0, q143_1, q143_3, q143_5, q143_8, q143_11, q143_13, gF0, gF1, gF2, gF3, gF4, gF5, gF6, gF7, gF8, gF9, gF10, gF11, gF12, gF13, gF14, gF15, gF16, gF17, gF18, gF19, pF0, pF1, pF2, pF3, pF4, pF5, pF6, pF7, pF8, pF9, pF10, pF11, pF12, pF13, pF14, pF15, pF16, pF17, pF18, pF19, aI_mk, aL_mk, aA_mk, sI_mk, sL_mk, sA_mk, isO_mk, rl_some, rl_none, true_and, and_true, true_or, or_true, wr_1, c93, bI_f c1, not_true, if_false]
    exact this
theorem x_sm {x : Int32} (h1 : -600000 ≤ x.toInt) : x.toInt64.toInt ≠ -9223372036854775808 := by
  rw [Int32.toInt_toInt64]
  omega
theorem c134 {w : xW} {r t : Int32} (D : isM w m) (v : vM m.df n) (rg : vR n (tD m.df) (mD m.df)) (K0 : ¬ ((¬ r < 0 ∧ r < nI n) ∧ 0 ≤ t ∧ t ≤ 1) → Q (some (.long (-2000000001))) w) (K1 : ∀ i, i < n → r = nI i → (0 ≤ t ∧ t ≤ 1) → tkF (tD m.df) i = 0 → Q (some (.long (-2000000004))) w) (K : ∀ i w2 m2, i < n → r = nI i → (0 ≤ t ∧ t ≤ 1) → tkF (tD m.df) i ≠ 0 → fr w w2 51 60 → isM w2 m2 → kM m m2 → Q (some (.long (if t = 0 then (smF (mD m.df) (tkF (tD m.df) i) i).toInt64 / cdF (tD m.df i).toInt64 (smF (mD m.df) (tkF (tD m.df) i) i).toInt64 else (tD m.df i).toInt64 / cdF (tD m.df i).toInt64 (smF (mD m.df) (tkF (tD m.df) i) i).toInt64))) w2) : Wp 134 b 0 [.ref 51, .int r, .int t] [] w Q := by
  have h0 := D.1
  have h1 := D.2.1
  have hn := v.2.1
  have z1 : ¬ (1 : Int32) = 0 := by decide
  by_cases c1 : ¬ r < 0 ∧ r < nI n
  · by_cases c2 : 0 ≤ t ∧ t ≤ 1
    · obtain ⟨i, hi, rfl⟩ := row_of hn c1.1 c1.2
      obtain ⟨t1, t2⟩ := v.2.2 i hi
      have t1' : m.df (28 + i) = nI (tkF (tD m.df) i) := t1
      have e0 : nI (tkF (tD m.df) i) = 0 ↔ tkF (tD m.df) i = 0 := nI_eq' (b := 0) (by omega) (by omega)
      by_cases c3 : tkF (tD m.df) i = 0
      · have KK := K1 i hi rfl c2 c3
        have e0' := e0.mpr c3
        simp only [q134_0, q134_1, q134_2, q134_5, q134_8, q134_9, q134_12, q134_15, q134_18, q134_19, q134_20, q134_23, q134_25, q134_26, q134_27, q134_28, q134_31, q134_34, q134_57, gF0, gF1, gF2, gF3, gF4, gF5, gF6, gF7, gF8, gF9, gF10, gF11, gF12, gF13, gF14, gF15, gF16, gF17, gF18, gF19, pF0, pF1, pF2, pF3, pF4, pF5, pF6, pF7, pF8, pF9, pF10, pF11, pF12, pF13, pF14, pF15, pF16, pF17, pF18, pF19, aI_mk, aL_mk, aA_mk, sI_mk, sL_mk, sA_mk, isO_mk, rl_some, rl_none, true_and, and_true, true_or, or_true, wr_1, c94 D v, bI_t c1, c97, bI_t c2, z1, if_false, not_false_eq_true, if_true, h0, oM, h1, ix28 (show i < 12 by omega), t1', e0', not_true]
        exact KK
      · simp only [q134_0, q134_1, q134_2, q134_5, q134_8, q134_9, q134_12, q134_15, q134_18, q134_19, q134_20, q134_23, q134_25, q134_26, q134_27, q134_28, q134_31, q134_34, q134_37, q134_38, q134_39, q134_40, q134_43, q134_44, q134_47, q134_49, q134_50, q134_51, q134_52, q134_53, q134_54, gF0, gF1, gF2, gF3, gF4, gF5, gF6, gF7, gF8, gF9, gF10, gF11, gF12, gF13, gF14, gF15, gF16, gF17, gF18, gF19, pF0, pF1, pF2, pF3, pF4, pF5, pF6, pF7, pF8, pF9, pF10, pF11, pF12, pF13, pF14, pF15, pF16, pF17, pF18, pF19, aI_mk, aL_mk, aA_mk, sI_mk, sL_mk, sA_mk, isO_mk, rl_some, rl_none, true_and, and_true, true_or, or_true, wr_1, c94 D v, bI_t c1, c97, bI_t c2, z1, if_false, not_false_eq_true, if_true, h0, oM, h1, ix28 (show i < 12 by omega), t1', e0, c3, c133 D v rg hi]
        have sb := (sm_L v.2 rg hi).2
        refine c100 D ((x_d1 _ (by omega)).1 c3) (x_sm sb.1) (fun w2 u z f2 D2 => ?_)
        have KK := K i w2 _ hi rfl c2 c3 f2 D2 kM.rf.up.dn
        rw [t1] at KK
        simp only [q134_57, gF0, gF1, gF2, gF3, gF4, gF5, gF6, gF7, gF8, gF9, gF10, gF11, gF12, gF13, gF14, gF15, gF16, gF17, gF18, gF19, pF0, pF1, pF2, pF3, pF4, pF5, pF6, pF7, pF8, pF9, pF10, pF11, pF12, pF13, pF14, pF15, pF16, pF17, pF18, pF19, aI_mk, aL_mk, aA_mk, sI_mk, sL_mk, sA_mk, isO_mk, rl_some, rl_none, true_and, and_true, true_or, or_true, wr_1]
        exact KK
    · have := K0 (fun q => c2 q.2)
      simp only [q134_0, q134_1, q134_2, q134_5, q134_8, q134_9, q134_12, q134_15, q134_18, gF0, gF1, gF2, gF3, gF4, gF5, gF6, gF7, gF8, gF9, gF10, gF11, gF12, gF13, gF14, gF15, gF16, gF17, gF18, gF19, pF0, pF1, pF2, pF3, pF4, pF5, pF6, pF7, pF8, pF9, pF10, pF11, pF12, pF13, pF14, pF15, pF16, pF17, pF18, pF19, aI_mk, aL_mk, aA_mk, sI_mk, sL_mk, sA_mk, isO_mk, rl_some, rl_none, true_and, and_true, true_or, or_true, wr_1, c94 D v, bI_t c1, c97, bI_f c2, z1, if_false, not_true, h0, oM]
      exact this
  · have := K0 (fun q => c1 q.1)
    simp only [q134_0, q134_1, q134_2, q134_5, q134_8, q134_9, q134_12, q134_15, q134_18, gF0, gF1, gF2, gF3, gF4, gF5, gF6, gF7, gF8, gF9, gF10, gF11, gF12, gF13, gF14, gF15, gF16, gF17, gF18, gF19, pF0, pF1, pF2, pF3, pF4, pF5, pF6, pF7, pF8, pF9, pF10, pF11, pF12, pF13, pF14, pF15, pF16, pF17, pF18, pF19, aI_mk, aL_mk, aA_mk, sI_mk, sL_mk, sA_mk, isO_mk, rl_some, rl_none, true_and, and_true, true_or, or_true, wr_1, c94 D v, bI_f c1, if_true, h0, oM]
    exact this
end MRK
