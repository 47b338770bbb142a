/-- a row taken out: rows r up to k are moved -/
def drF (d : Nat → Int32) (r k : Nat) : Nat → Int32 := fun z => if (4 + r ≤ z ∧ z < 4 + k) ∨ (16 + r ≤ z ∧ z < 16 + k) ∨ (28 + r ≤ z ∧ z < 28 + k) then d (z + 1) else if 40 + 6 * r ≤ z ∧ z < 40 + 6 * k then d (z + 6) else d z
/-- a reading taken out of row i: places j up to t -/
def drR (d : Nat → Int32) (i j t : Nat) : Nat → Int32 := fun z => if 40 + 6 * i + j ≤ z ∧ z < 40 + 6 * i + t then d (z + 1) else d z
theorem drF_s {d : Nat → Int32} {r i z : Nat} (hr : r ≤ i) (hi : i + 1 < 12) : drF d r (i + 1) z = if 40 + 6 * i ≤ z ∧ z < 46 + 6 * i then drF d r i (z + 6) else if z = 28 + i ∨ z = 16 + i ∨ z = 4 + i then drF d r i (z + 1) else drF d r i z := by
  unfold drF
  repeat' split
  all_goals first | rfl | (exfalso; omega)
section MRC
variable {b : Nat} {m : xM} {n U : Nat} {Q : Option Value → xW → Prop}
theorem c117 {w : xW} (D : isM w m) (v : vM m.df n) (hs : m.st ≤ 5) {r x : Int32} (K0 : ¬ ((¬ r < 0 ∧ r < nI n) ∧ -100000 ≤ x ∧ x ≤ 100000) → Q (some (.int (-2000000001))) w) (K1 : ∀ i, i < n → r = nI i → (-100000 ≤ x ∧ x ≤ 100000) → tkF (tD m.df) i = 6 → Q (some (.int (-2000000003))) w) (K : ∀ i w2 m2, i < n → r = nI i → (-100000 ≤ x ∧ x ≤ 100000) → tkF (tD m.df) i < 6 → fr w w2 51 60 → rcM m m2 → isM w2 (m2.s_df (tcF m.df i (tkF (tD m.df) i) x)) → Q (some (.int (nI (tkF (tD m.df) i)))) w2) : Wp 117 b 0 [.ref 51, .int r, .int x] [] w Q := by
  have h0 := D.1
  have h1 := D.2.1
  have hn := v.2.1
  have z1 : ¬ (1 : Int32) = 0 := by decide
  by_cases c1 : ¬ r < 0 ∧ r < nI n
  · by_cases c2 : -100000 ≤ x ∧ x ≤ 100000
    · obtain ⟨i, hi, rfl⟩ := row_of hn c1.1 c1.2
      obtain ⟨t1, t2⟩ := v.2.2 i hi
      have t1' : m.df (28 + i) = nI (tkF (tD m.df) i) := t1
      have e6 : nI (tkF (tD m.df) i) = 6 ↔ tkF (tD m.df) i = 6 := nI_eq' (b := 6) (by omega) (by omega)
      by_cases c3 : tkF (tD m.df) i = 6
      · have e6' := e6.mpr c3
        simp only [q117_0, q117_1, q117_2, q117_5, q117_8, q117_9, q117_11, q117_13, q117_16, q117_19, q117_21, q117_22, q117_23, q117_26, q117_28, q117_29, q117_30, q117_31, q117_33, q117_36, q117_38, gF0, gF1, gF2, gF3, gF4, gF5, gF6, gF7, gF8, gF9, gF10, gF11, gF12, gF13, gF14, gF15, gF16, gF17, gF18, gF19, pF0, pF1, pF2, pF3, pF4, pF5, pF6, pF7, pF8, pF9, pF10, pF11, pF12, pF13, pF14, pF15, pF16, pF17, pF18, pF19, aI_mk, aL_mk, aA_mk, sI_mk, sL_mk, sA_mk, isO_mk, rl_some, rl_none, true_and, and_true, true_or, or_true, wr_1, c94 D v, c93, bI_t c1, bI_t c2, z1, if_false, h0, oM, h1, ix28 (show i < 12 by omega), t1', e6', not_true, not_false_eq_true, if_true]
        exact K1 i hi rfl c2 c3
      · simp only [q117_0, q117_1, q117_2, q117_5, q117_8, q117_9, q117_11, q117_13, q117_16, q117_19, q117_21, q117_22, q117_23, q117_26, q117_28, q117_29, q117_30, q117_31, q117_33, q117_36, q117_38, q117_39, q117_40, gF0, gF1, gF2, gF3, gF4, gF5, gF6, gF7, gF8, gF9, gF10, gF11, gF12, gF13, gF14, gF15, gF16, gF17, gF18, gF19, pF0, pF1, pF2, pF3, pF4, pF5, pF6, pF7, pF8, pF9, pF10, pF11, pF12, pF13, pF14, pF15, pF16, pF17, pF18, pF19, aI_mk, aL_mk, aA_mk, sI_mk, sL_mk, sA_mk, isO_mk, rl_some, rl_none, true_and, and_true, true_or, or_true, wr_1, c94 D v, c93, bI_t c1, bI_t c2, z1, if_false, h0, oM, h1, ix28 (show i < 12 by omega), t1', e6, c3, not_true, not_false_eq_true, if_true]
        refine d98 D hs (fun w2 m2 e2 D2 r2 => ?_)
        have h2 := D2.1
        have ed : m2.df = m.df := r2.1
        simp only [q117_43, q117_44, q117_45, q117_46, gF0, gF1, gF2, gF3, gF4, gF5, gF6, gF7, gF8, gF9, gF10, gF11, gF12, gF13, gF14, gF15, gF16, gF17, gF18, gF19, pF0, pF1, pF2, pF3, pF4, pF5, pF6, pF7, pF8, pF9, pF10, pF11, pF12, pF13, pF14, pF15, pF16, pF17, pF18, pF19, aI_mk, aL_mk, aA_mk, sI_mk, sL_mk, sA_mk, isO_mk, rl_some, rl_none, true_and, and_true, true_or, or_true, wr_1, h2, oM]
        refine c116 D2 (i := i) (t := tkF (tD m.df) i) (by omega) (by rw [ed]; exact t1') (by omega) (fun w3 e3 D3 => ?_)
        rw [ed] at D3
        have := K i w3 m2 hi rfl c2 (by omega) (e2.tr e3) r2 D3
        simp only [q117_49, gF0, gF1, gF2, gF3, gF4, gF5, gF6, gF7, gF8, gF9, gF10, gF11, gF12, gF13, gF14, gF15, gF16, gF17, gF18, gF19, pF0, pF1, pF2, pF3, pF4, pF5, pF6, pF7, pF8, pF9, pF10, pF11, pF12, pF13, pF14, pF15, pF16, pF17, pF18, pF19, aI_mk, aL_mk, aA_mk, sI_mk, sL_mk, sA_mk, isO_mk, rl_some, rl_none, true_and, and_true, true_or, or_true, wr_1]
        exact this
    · have := K0 (fun q => c2 q.2)
      simp only [q117_0, q117_1, q117_2, q117_5, q117_8, q117_9, q117_11, q117_13, q117_16, q117_19, q117_21, gF0, gF1, gF2, gF3, gF4, gF5, gF6, gF7, gF8, gF9, gF10, gF11, gF12, gF13, gF14, gF15, gF16, gF17, gF18, gF19, pF0, pF1, pF2, pF3, pF4, pF5, pF6, pF7, pF8, pF9, pF10, pF11, pF12, pF13, pF14, pF15, pF16, pF17, pF18, pF19, aI_mk, aL_mk, aA_mk, sI_mk, sL_mk, sA_mk, isO_mk, rl_some, rl_none, true_and, and_true, true_or, or_true, wr_1, c94 D v, c93, bI_t c1, bI_f c2, z1, if_false, if_true, h0, oM, not_true, not_false_eq_true]
      exact this
  · have := K0 (fun q => c1 q.1)
    simp only [q117_0, q117_1, q117_2, q117_5, q117_8, q117_9, q117_11, q117_13, q117_16, q117_19, q117_21, gF0, gF1, gF2, gF3, gF4, gF5, gF6, gF7, gF8, gF9, gF10, gF11, gF12, gF13, gF14, gF15, gF16, gF17, gF18, gF19, pF0, pF1, pF2, pF3, pF4, pF5, pF6, pF7, pF8, pF9, pF10, pF11, pF12, pF13, pF14, pF15, pF16, pF17, pF18, pF19, aI_mk, aL_mk, aA_mk, sI_mk, sL_mk, sA_mk, isO_mk, rl_some, rl_none, true_and, and_true, true_or, or_true, wr_1, c94 D v, bI_f c1, if_true, h0, oM]
    exact this
theorem ix41 {i j : Nat} (hi : i < 12) (hj : j + 1 < 6) : (40 : Int32) + 6 * nI i + nI j + 1 = nI (40 + (6 * i + j) + 1) ∧ x_pl (nI (40 + (6 * i + j) + 1)) 112 ∧ (nI (40 + (6 * i + j) + 1)).toNatClampNeg = 40 + (6 * i + j) + 1 := by
  refine ⟨?_, x_pl_nI (by omega) (by omega), cl_nI (by omega)⟩
  rw [(ix40 hi (show j < 6 by omega)).1, nI_1]
theorem l118 {i t : Nat} {k0 : Int32} (hi : i < 12) (ht6 : t < 6) : ∀ (c j : Nat) (w : xW) (f : Nat → Int32), j + c = t → f (28 + i) = nI t → isM w (m.s_df f) → (∀ w2 f2, fr w w2 51 60 → isM w2 (m.s_df f2) → (∀ z, f2 z = drR f i j t z) → Q (some (.int (nI t))) w2) → Wp 118 b 31 [.ref 51, .int (nI i), .int k0, .int (nI j)] [] w Q := by
  intro c
  induction c with
  | zero =>
    intro j w f hj hf D K
    have hc : nI t ≤ nI j := nI_le (by omega) (by omega)
    obtain ⟨h0, h1, -, -⟩ := D.df0
    have := K w f fr.rf D (fun z => by unfold drR; rw [if_neg (by omega)])
    simp only [q118_31, q118_32, q118_33, q118_36, q118_38, q118_39, q118_40, q118_41, q118_80, q118_81, q118_84, q118_86, q118_87, q118_88, q118_89, gF0, gF1, gF2, gF3, gF4, gF5, gF6, gF7, gF8, gF9, gF10, gF11, gF12, gF13, gF14, gF15, gF16, gF17, gF18, gF19, pF0, pF1, pF2, pF3, pF4, pF5, pF6, pF7, pF8, pF9, pF10, pF11, pF12, pF13, pF14, pF15, pF16, pF17, pF18, pF19, aI_mk, aL_mk, aA_mk, sI_mk, sL_mk, sA_mk, isO_mk, rl_some, rl_none, true_and, and_true, true_or, or_true, wr_1, h0, oM, h1, ix28 hi, hf, if_pos hc]
    exact this
  | succ c ih =>
    intro j w f hj hf D K
    have hc : ¬ nI t ≤ nI j := by rw [nI_le' (by omega) (by omega)]; omega
    obtain ⟨h0, h1, -, -⟩ := D.df0
    have e1 : (40 : Int32) + 6 * nI i + nI j = nI (40 + (6 * i + j)) := (ix40 hi (show j < 6 by omega)).1
    have e2 := ix41 hi (show j + 1 < 6 by omega)
    rw [e1] at e2
    simp only [q118_31]
    simp only [q118_32, q118_33, q118_36, q118_38, q118_39, q118_40, q118_41, q118_44, q118_45, q118_48, q118_50, q118_52, q118_53, q118_54, q118_55, q118_56, q118_57, q118_58, q118_61, q118_63, q118_65, q118_66, q118_67, q118_68, q118_69, q118_70, q118_71, q118_72, q118_73, q118_74, q118_77, gF0, gF1, gF2, gF3, gF4, gF5, gF6, gF7, gF8, gF9, gF10, gF11, gF12, gF13, gF14, gF15, gF16, gF17, gF18, gF19, pF0, pF1, pF2, pF3, pF4, pF5, pF6, pF7, pF8, pF9, pF10, pF11, pF12, pF13, pF14, pF15, pF16, pF17, pF18, pF19, aI_mk, aL_mk, aA_mk, sI_mk, sL_mk, sA_mk, isO_mk, rl_some, rl_none, true_and, and_true, true_or, or_true, wr_1, h0, oM, h1, ix28 hi, hf, if_neg hc, ix40 hi (show j < 6 by omega), e2, nI_1]
    refine ih (j + 1) _ _ (by omega) ?_ D.df1 (fun w2 f2 e2 D2 E => K w2 f2 ((fr.wr (by omega) (by omega)).tr e2) D2 (fun z => ?_))
    · rw [pk_un (by omega), hf]
    · rw [E z]
      unfold drR
      by_cases c1 : z = 40 + (6 * i + j)
      · rw [if_neg (by omega), if_pos (by omega), c1, pk_us]
      · by_cases c2 : 40 + 6 * i + (j + 1) ≤ z ∧ z < 40 + 6 * i + t
        · rw [if_pos c2, if_pos (by omega), pk_un (by omega)]
        · rw [if_neg c2, if_neg (by omega), pk_un c1]
theorem c118 {w : xW} (D : isM w m) (v : vM m.df n) (hs : m.st ≤ 5) {r k : Int32} (K0 : ¬ ((¬ r < 0 ∧ r < nI n) ∧ ¬ k < 0 ∧ k < tD m.df r.toNatClampNeg) → Q (some (.int (-2000000001))) w) (K : ∀ i j t w2 m2 f2, i < n → r = nI i → k = nI j → j ≤ t → t < 6 → m.df (28 + i) = nI (t + 1) → fr w w2 51 60 → rcM m m2 → isM w2 (m2.s_df f2) → (∀ z, f2 z = drR (upd m.df (28 + i) (nI t)) i j t z) → Q (some (.int (nI t))) w2) : Wp 118 b 0 [.ref 51, .int r, .int k, x_no] [] w Q := by
  have h0 := D.1
  have h1 := D.2.1
  have hn := v.2.1
  have z1 : ¬ (1 : Int32) = 0 := by decide
  by_cases c1 : (¬ r < 0 ∧ r < nI n) ∧ ¬ k < 0 ∧ k < tD m.df r.toNatClampNeg
  · obtain ⟨i, hi, er⟩ := row_of hn c1.1.1 c1.1.2
    have hcl : (nI i).toNatClampNeg = i := cl_nI (by omega)
    obtain ⟨t1, t2⟩ := v.2.2 i hi
    have c1' := c1.2
    rw [er, hcl, t1] at c1'
    obtain ⟨j, hj, ek⟩ := row_of (n := tkF (tD m.df) i) (by omega) c1'.1 c1'.2
    obtain ⟨t, ett⟩ : ∃ t, tkF (tD m.df) i = t + 1 := ⟨tkF (tD m.df) i - 1, by omega⟩
    have t1' : m.df (28 + i) = nI (t + 1) := by rw [← ett]; exact t1
    simp only [q118_0, q118_1, q118_2, q118_3, q118_6, q118_9, q118_11, q118_12, q118_13, gF0, gF1, gF2, gF3, gF4, gF5, gF6, gF7, gF8, gF9, gF10, gF11, gF12, gF13, gF14, gF15, gF16, gF17, gF18, gF19, pF0, pF1, pF2, pF3, pF4, pF5, pF6, pF7, pF8, pF9, pF10, pF11, pF12, pF13, pF14, pF15, pF16, pF17, pF18, pF19, aI_mk, aL_mk, aA_mk, sI_mk, sL_mk, sA_mk, isO_mk, rl_some, rl_none, true_and, and_true, true_or, or_true, wr_1, c95 D v, bI_t c1, z1, not_false_eq_true, if_true, h0, oM]
    refine d98 D hs (fun w2 m2 e2 D2 r2 => ?_)
    rw [← t_df_self (m := m2)] at D2
    obtain ⟨h2, h3, -, -⟩ := D2.df0
    have ed : m2.df = m.df := r2.1
    rw [ed] at h3
    have D3 := D2.df1 (g := upd m.df (28 + i) (nI t))
    have e4 : nI (t + 1) - 1 = nI t := nI_pred t
    subst er
    subst ek
    have R := l118 (b := b) (m := m2) (Q := Q) (i := i) (t := t) (k0 := nI j) (by omega) (by omega) (t - j) j _ _ (by omega) pk_us D3 (fun w4 f4 e4 D4 E4 => K i j t w4 m2 f4 hi rfl rfl (by omega) (by omega) t1' ((e2.tr (fr.wr (by omega) (by omega))).tr e4) r2 D4 E4)
    simp only [q118_16, q118_17, q118_20, q118_22, q118_23, q118_24, q118_25, q118_26, q118_27, q118_28, q118_29, q118_30, gF0, gF1, gF2, gF3, gF4, gF5, gF6, gF7, gF8, gF9, gF10, gF11, gF12, gF13, gF14, gF15, gF16, gF17, gF18, gF19, pF0, pF1, pF2, pF3, pF4, pF5, pF6, pF7, pF8, pF9, pF10, pF11, pF12, pF13, pF14, pF15, pF16, pF17, pF18, pF19, aI_mk, aL_mk, aA_mk, sI_mk, sL_mk, sA_mk, isO_mk, rl_some, rl_none, true_and, and_true, true_or, or_true, wr_1, h2, oM, h3, ix28 (show i < 12 by omega), t1', e4]
    exact R
  · have := K0 c1
    simp only [q118_0, q118_1, q118_2, q118_3, q118_6, q118_9, q118_11, gF0, gF1, gF2, gF3, gF4, gF5, gF6, gF7, gF8, gF9, gF10, gF11, gF12, gF13, gF14, gF15, gF16, gF17, gF18, gF19, pF0, pF1, pF2, pF3, pF4, pF5, pF6, pF7, pF8, pF9, pF10, pF11, pF12, pF13, pF14, pF15, pF16, pF17, pF18, pF19, aI_mk, aL_mk, aA_mk, sI_mk, sL_mk, sA_mk, isO_mk, rl_some, rl_none, true_and, and_true, true_or, or_true, wr_1, c95 D v, bI_f c1, not_true, if_false, h0, oM]
    exact this
theorem ix46 {i j : Nat} (hi : i + 1 < 12) (hj : j < 6) : (40 : Int32) + 6 * nI i + 6 + nI j = nI (40 + (6 * i + j) + 6) ∧ x_pl (nI (40 + (6 * i + j) + 6)) 112 ∧ (nI (40 + (6 * i + j) + 6)).toNatClampNeg = 40 + (6 * i + j) + 6 := by
  refine ⟨?_, x_pl_nI (by omega) (by omega), cl_nI (by omega)⟩
  rw [show (40 : Int32) = nI 40 from rfl, show (6 : Int32) = nI 6 from rfl, pk_mul, nI_add, nI_add, nI_add]
  exact congrArg nI (by omega)
theorem l115b {i : Nat} {x1 : Int32} (hi : i + 1 < 12) : ∀ (c j : Nat) (w : xW) (f : Nat → Int32), j + c = 6 → isM w (m.s_df f) → (∀ w2 f2, fr w w2 51 60 → isM w2 (m.s_df f2) → (∀ z, f2 z = if 40 + 6 * i + j ≤ z ∧ z < 46 + 6 * i then f (z + 6) else f z) → Wp 115 b 140 [.ref 51, .int x1, .int (nI i), .int (nI 6)] [] w2 Q) → Wp 115 b 97 [.ref 51, .int x1, .int (nI i), .int (nI j)] [] w Q := by
  intro c
  induction c with
  | zero =>
    intro j w f hj D K
    have e : j = 6 := by omega
    subst e
    have hc : (6 : Int32) ≤ nI 6 := by decide
    simp only [q115_97, q115_98, q115_100, gF0, gF1, gF2, gF3, gF4, gF5, gF6, gF7, gF8, gF9, gF10, gF11, gF12, gF13, gF14, gF15, gF16, gF17, gF18, gF19, pF0, pF1, pF2, pF3, pF4, pF5, pF6, pF7, pF8, pF9, pF10, pF11, pF12, pF13, pF14, pF15, pF16, pF17, pF18, pF19, aI_mk, aL_mk, aA_mk, sI_mk, sL_mk, sA_mk, isO_mk, rl_some, rl_none, true_and, and_true, true_or, or_true, wr_1, if_pos hc]
    exact K w f fr.rf D (fun z => by rw [if_neg (by omega)])
  | succ c ih =>
    intro j w f hj D K
    have hc : ¬ (6 : Int32) ≤ nI j := by rw [show (6 : Int32) = nI 6 from rfl, nI_le' (by omega) (by omega)]; omega
    obtain ⟨h0, h1, -, -⟩ := D.df0
    simp only [q115_97]
    simp only [q115_98, q115_100, q115_103, q115_104, q115_107, q115_109, q115_111, q115_112, q115_113, q115_114, q115_115, q115_116, q115_117, q115_120, q115_122, q115_124, q115_125, q115_126, q115_127, q115_129, q115_130, q115_131, q115_132, q115_133, q115_134, q115_137, gF0, gF1, gF2, gF3, gF4, gF5, gF6, gF7, gF8, gF9, gF10, gF11, gF12, gF13, gF14, gF15, gF16, gF17, gF18, gF19, pF0, pF1, pF2, pF3, pF4, pF5, pF6, pF7, pF8, pF9, pF10, pF11, pF12, pF13, pF14, pF15, pF16, pF17, pF18, pF19, aI_mk, aL_mk, aA_mk, sI_mk, sL_mk, sA_mk, isO_mk, rl_some, rl_none, true_and, and_true, true_or, or_true, wr_1, h0, oM, h1, if_neg hc, ix40 (show i < 12 by omega) (show j < 6 by omega), ix46 hi (show j < 6 by omega), nI_1]
    refine ih (j + 1) _ _ (by omega) D.df1 (fun w2 f2 e2 D2 E => K w2 f2 ((fr.wr (by omega) (by omega)).tr e2) D2 (fun z => ?_))
    rw [E z]
    by_cases c1 : z = 40 + (6 * i + j)
    · rw [if_neg (by omega), if_pos (by omega), c1, pk_us]
    · by_cases c2 : 40 + 6 * i + (j + 1) ≤ z ∧ z < 46 + 6 * i
      · rw [if_pos c2, if_pos (by omega), pk_un (by omega)]
      · rw [if_neg c2, if_neg (by omega), pk_un c1]
theorem l115a {d : Nat → Int32} {r k : Nat} {x1 : Int32} (hk : k < 12) (d3 : d 3 = nI k) : ∀ (c i : Nat) (w : xW) (f : Nat → Int32) (x3 : Value), i + c = k → r ≤ i → isM w (m.s_df f) → (∀ z, f z = drF d r i z) → (∀ w2 f2, fr w w2 51 60 → isM w2 (m.s_df f2) → (∀ z, f2 z = drF d r k z) → Q (some (.int (nI k))) w2) → Wp 115 b 27 [.ref 51, .int x1, .int (nI i), x3] [] w Q := by
  have g3 : ∀ i, drF d r i 3 = nI k := by
    intro i
    unfold drF
    rw [if_neg (by omega), if_neg (by omega), d3]
  intro c
  induction c with
  | zero =>
    intro i w f x3 hi hri D E K
    have hc : nI k ≤ nI i := nI_le (by omega) (by omega)
    obtain ⟨h0, h1, -, -⟩ := D.df0
    have e3 : f 3 = nI k := by rw [E 3, g3]
    have e : i = k := by omega
    subst e
    have := K w f fr.rf D E
    simp only [q115_27, q115_28, q115_29, q115_32, q115_33, q115_34, q115_146, q115_147, q115_150, q115_151, q115_152, gF0, gF1, gF2, gF3, gF4, gF5, gF6, gF7, gF8, gF9, gF10, gF11, gF12, gF13, gF14, gF15, gF16, gF17, gF18, gF19, pF0, pF1, pF2, pF3, pF4, pF5, pF6, pF7, pF8, pF9, pF10, pF11, pF12, pF13, pF14, pF15, pF16, pF17, pF18, pF19, aI_mk, aL_mk, aA_mk, sI_mk, sL_mk, sA_mk, isO_mk, rl_some, rl_none, true_and, and_true, true_or, or_true, wr_1, h0, oM, h1, p112, Int32.reduceToNatClampNeg, e3, if_pos hc]
    exact this
  | succ c ih =>
    intro i w f x3 hi hri D E K
    have hc : ¬ nI k ≤ nI i := by rw [nI_le' (by omega) (by omega)]; omega
    obtain ⟨h0, h1, -, -⟩ := D.df0
    have e3 : f 3 = nI k := by rw [E 3, g3]
    have i12 : i < 12 := by omega
    have j12 : i + 1 < 12 := by omega
    have n51 : ¬ 51 = 52 := by omega
    have u1 : nI (4 + i) + 1 = nI (4 + (i + 1)) := by rw [nI_1]; exact congrArg nI (by omega)
    have u2 : nI (16 + i) + 1 = nI (16 + (i + 1)) := by rw [nI_1]; exact congrArg nI (by omega)
    have u3 : nI (28 + i) + 1 = nI (28 + (i + 1)) := by rw [nI_1]; exact congrArg nI (by omega)
    have a2 : upd f (4 + i) (f (4 + (i + 1))) (16 + (i + 1)) = f (16 + (i + 1)) := pk_un (by omega)
    have a3 : upd (upd f (4 + i) (f (4 + (i + 1)))) (16 + i) (f (16 + (i + 1))) (28 + (i + 1)) = f (28 + (i + 1)) := by rw [pk_un (by omega), pk_un (by omega)]
    have D3 := ((D.df1 (g := upd f (4 + i) (f (4 + (i + 1))))).df1 (g := upd (upd f (4 + i) (f (4 + (i + 1)))) (16 + i) (f (16 + (i + 1))))).df1 (g := upd (upd (upd f (4 + i) (f (4 + (i + 1)))) (16 + i) (f (16 + (i + 1)))) (28 + i) (f (28 + (i + 1))))
    have F3 := ((fr.wr (w := w) (a := 52) (c := .inl (0, 112, .inl (upd f (4 + i) (f (4 + (i + 1)))))) (lo := 51) (hi := 60) (by omega) (by omega)).tr (fr.wr (a := 52) (c := .inl (0, 112, .inl (upd (upd f (4 + i) (f (4 + (i + 1)))) (16 + i) (f (16 + (i + 1)))))) (by omega) (by omega))).tr (fr.wr (a := 52) (c := .inl (0, 112, .inl (upd (upd (upd f (4 + i) (f (4 + (i + 1)))) (16 + i) (f (16 + (i + 1)))) (28 + i) (f (28 + (i + 1)))))) (by omega) (by omega))
    have R := l115b (b := b) (m := m) (Q := Q) (x1 := x1) j12 6 0 _ _ (Nat.zero_add _) D3 (fun w4 f4 e4 D4 E4 => by
      simp only [q115_140, q115_143, nI_1]
      refine ih (i + 1) w4 f4 _ (by omega) (by omega) D4 (fun z => ?_) (fun w5 f5 e5 => K w5 f5 ((F3.tr e4).tr e5))
      rw [E4 z, drF_s hri j12]
      by_cases p1 : 40 + 6 * i ≤ z ∧ z < 46 + 6 * i
      · rw [if_pos p1, if_pos (show 40 + 6 * i + 0 ≤ z ∧ z < 46 + 6 * i by omega), pk_un (by omega), pk_un (by omega), pk_un (by omega)]
        exact E (z + 6)
      · rw [if_neg p1, if_neg (show ¬ (40 + 6 * i + 0 ≤ z ∧ z < 46 + 6 * i) by omega)]
        by_cases p2 : z = 28 + i
        · subst p2
          rw [pk_us, if_pos (Or.inl rfl)]
          exact E _
        · rw [pk_un p2]
          by_cases p3 : z = 16 + i
          · subst p3
            rw [pk_us, if_pos (Or.inr (Or.inl rfl))]
            exact E _
          · rw [pk_un p3]
            by_cases p4 : z = 4 + i
            · subst p4
              rw [pk_us, if_pos (Or.inr (Or.inr rfl))]
              exact E _
            · rw [pk_un p4, if_neg (by omega)]
              exact E z)
    simp only [q115_27]
    simp only [q115_28, q115_29, q115_32, q115_33, q115_34, q115_37, q115_38, q115_41, q115_42, q115_43, q115_44, q115_45, q115_48, q115_49, q115_50, q115_51, q115_52, q115_53, q115_54, q115_55, q115_56, q115_59, q115_61, q115_62, q115_63, q115_64, q115_67, q115_69, q115_70, q115_71, q115_72, q115_73, q115_74, q115_75, q115_76, q115_79, q115_81, q115_82, q115_83, q115_84, q115_87, q115_89, q115_90, q115_91, q115_92, q115_93, q115_94, q115_95, q115_96, gF0, gF1, gF2, gF3, gF4, gF5, gF6, gF7, gF8, gF9, gF10, gF11, gF12, gF13, gF14, gF15, gF16, gF17, gF18, gF19, pF0, pF1, pF2, pF3, pF4, pF5, pF6, pF7, pF8, pF9, pF10, pF11, pF12, pF13, pF14, pF15, pF16, pF17, pF18, pF19, aI_mk, aL_mk, aA_mk, sI_mk, sL_mk, sA_mk, isO_mk, rl_some, rl_none, true_and, and_true, true_or, or_true, wr_1, h0, oM, h1, p112, Int32.reduceToNatClampNeg, e3, if_neg hc, ix4 i12, ix16 i12, ix28 i12, u1, u2, u3, (ix4 j12).2, (ix16 j12).2, (ix28 j12).2, rd_wr, if_true, n51, if_false, a2, a3]
    exact R
theorem c115 {w : xW} (D : isM w m) (v : vM m.df n) (hs : m.st ≤ 5) {r : Int32} (K0 : ¬ (¬ r < 0 ∧ r < nI n) → Q (some (.int (-2000000001))) w) (K : ∀ i k w2 m2 f2, n = k + 1 → i ≤ k → r = nI i → fr w w2 51 60 → rcM m m2 → isM w2 (m2.s_df f2) → (∀ z, f2 z = drF (upd m.df 3 (nI k)) i k z) → Q (some (.int (nI k))) w2) : Wp 115 b 0 [.ref 51, .int r, x_no, x_no] [] w Q := by
  have h0 := D.1
  have h1 := D.2.1
  have hn := v.2.1
  have z1 : ¬ (1 : Int32) = 0 := by decide
  by_cases c1 : ¬ r < 0 ∧ r < nI n
  · obtain ⟨i, hi, rfl⟩ := row_of hn c1.1 c1.2
    obtain ⟨k, hk⟩ : ∃ k, n = k + 1 := ⟨n - 1, by omega⟩
    have v0 := v.1
    simp only [q115_0, q115_1, q115_2, q115_5, q115_8, q115_10, q115_11, q115_12, gF0, gF1, gF2, gF3, gF4, gF5, gF6, gF7, gF8, gF9, gF10, gF11, gF12, gF13, gF14, gF15, gF16, gF17, gF18, gF19, pF0, pF1, pF2, pF3, pF4, pF5, pF6, pF7, pF8, pF9, pF10, pF11, pF12, pF13, pF14, pF15, pF16, pF17, pF18, pF19, aI_mk, aL_mk, aA_mk, sI_mk, sL_mk, sA_mk, isO_mk, rl_some, rl_none, true_and, and_true, true_or, or_true, wr_1, c94 D v, bI_t c1, z1, not_false_eq_true, if_true, h0, oM]
    refine d98 D hs (fun w2 m2 e2 D2 r2 => ?_)
    rw [← t_df_self (m := m2)] at D2
    obtain ⟨h2, h3, -, -⟩ := D2.df0
    have ed : m2.df = m.df := r2.1
    rw [ed] at h3
    have D3 := D2.df1 (g := upd m.df 3 (nI k))
    have e4 : nI n - 1 = nI k := by rw [hk]; exact nI_pred k
    have R := l115a (b := b) (m := m2) (Q := Q) (d := upd m.df 3 (nI k)) (r := i) (k := k) (x1 := nI i) (by omega) pk_us (k - i) i _ (upd m.df 3 (nI k)) x_no (by omega) (Nat.le_refl _) D3 (fun z => by unfold drF; rw [if_neg (by omega), if_neg (by omega)]) (fun w4 f4 e4 D4 E4 => K i k w4 m2 f4 hk (by omega) rfl ((e2.tr (fr.wr (by omega) (by omega))).tr e4) r2 D4 E4)
    simp only [q115_15, q115_16, q115_19, q115_20, q115_21, q115_22, q115_23, q115_24, q115_25, q115_26, gF0, gF1, gF2, gF3, gF4, gF5, gF6, gF7, gF8, gF9, gF10, gF11, gF12, gF13, gF14, gF15, gF16, gF17, gF18, gF19, pF0, pF1, pF2, pF3, pF4, pF5, pF6, pF7, pF8, pF9, pF10, pF11, pF12, pF13, pF14, pF15, pF16, pF17, pF18, pF19, aI_mk, aL_mk, aA_mk, sI_mk, sL_mk, sA_mk, isO_mk, rl_some, rl_none, true_and, and_true, true_or, or_true, wr_1, h2, oM, h3, p112, Int32.reduceToNatClampNeg, v0, e4]
    exact R
  · have := K0 c1
    simp only [q115_0, q115_1, q115_2, q115_5, q115_8, q115_10, gF0, gF1, gF2, gF3, gF4, gF5, gF6, gF7, gF8, gF9, gF10, gF11, gF12, gF13, gF14, gF15, gF16, gF17, gF18, gF19, pF0, pF1, pF2, pF3, pF4, pF5, pF6, pF7, pF8, pF9, pF10, pF11, pF12, pF13, pF14, pF15, pF16, pF17, pF18, pF19, aI_mk, aL_mk, aA_mk, sI_mk, sL_mk, sA_mk, isO_mk, rl_some, rl_none, true_and, and_true, true_or, or_true, wr_1, c94 D v, bI_f c1, not_true, if_false, h0, oM]
    exact this
end MRC
