section MRL
variable {b : Nat} {m : xM} {n U : Nat} {Q : Option Value → xW → Prop}
/-- a fraction's part, as both sides tell it -/
abbrev prt (t : Int32) (x d : Int64) : Int64 := if t = 0 then x / cdF d x else d / cdF d x
theorem c130 {w : xW} {t : Int32} (D : isM w m) (v : vM m.df n) (hp : 4 + m.df 1 = nI U) (hU : U = 4 ∨ U = 5) (hd : ¬ dtF U (mN m n) = 0 → 0 < (dtF U (mN m n)).toInt) (hx : ∀ a, a < U → (dtF U (enF (nI a) (mN m n) (mS m n))).toInt ≠ -9223372036854775808) (K0 : ¬ (0 ≤ t ∧ t ≤ 1) → Q (some (.long (-2000000001))) w) (K1 : ∀ w2 m2, (0 ≤ t ∧ t ≤ 1) → dtF U (mN m n) = 0 → fr w w2 51 60 → isM w2 m2 → kM m m2 → Q (some (.long (-2000000002))) w2) (K : ∀ w2 m2, (0 ≤ t ∧ t ≤ 1) → ¬ dtF U (mN m n) = 0 → fr w w2 51 60 → isM w2 m2 → kM m m2 → Q (some (.long (prt t (if U = 4 then 0 else dtF U (enF (nI 4) (mN m n) (mS m n))) (dtF U (mN m n))))) w2) : Wp 130 b 0 [.ref 51, .int t] [] w Q := by
  have z1 : ¬ (1 : Int32) = 0 := by decide
  have h0 := D.1
  by_cases c : 0 ≤ t ∧ t ≤ 1
  · simp only [q130_0, q130_1, q130_4, q130_7, q130_10, q130_11, q130_12, gF0, gF1, gF2, gF3, gF4, gF5, gF6, gF7, gF8, gF9, gF10, gF11, gF12, gF13, gF14, gF15, gF16, gF17, gF18, gF19, pF0, pF1, pF2, pF3, pF4, pF5, pF6, pF7, pF8, pF9, pF10, pF11, pF12, pF13, pF14, pF15, pF16, pF17, pF18, pF19, aI_mk, aL_mk, aA_mk, sI_mk, sL_mk, sA_mk, isO_mk, rl_some, rl_none, true_and, and_true, true_or, or_true, wr_1, c97, bI_t c, z1, not_false_eq_true, if_true, h0, oM]
    refine c108 D v hp hU (fun w2 m2 f2 D2 k2 e1 e2 e3 => ?_)
    have h2 := D2.1
    have h8 : rd w2 58 = .inl (1, 5, .inr (.inl m2.vf)) := D2.2.2.2.2.2.2.2.1
    have p4 : x_pl 4 5 := x_pl_nI (j := 4) (by omega) (by omega)
    by_cases r : dtF U (mN m n) = 0
    · have KK := K1 w2 m2 c r f2 D2 k2
      simp only [q130_15, q130_36, q130_39, gF0, gF1, gF2, gF3, gF4, gF5, gF6, gF7, gF8, gF9, gF10, gF11, gF12, gF13, gF14, gF15, gF16, gF17, gF18, gF19, pF0, pF1, pF2, pF3, pF4, pF5, pF6, pF7, pF8, pF9, pF10, pF11, pF12, pF13, pF14, pF15, pF16, pF17, pF18, pF19, aI_mk, aL_mk, aA_mk, sI_mk, sL_mk, sA_mk, isO_mk, rl_some, rl_none, true_and, and_true, true_or, or_true, wr_1, bI_f (fun q : ¬ dtF U (mN m n) = 0 => q r), if_true]
      exact KK
    · have ev : m2.vf 4 = (if U = 4 then 0 else dtF U (enF (nI 4) (mN m n) (mS m n))) := by
        by_cases c4 : U = 4
        · rw [if_pos c4, e3 c4]
        · rw [if_neg c4, e2 r 4 (by omega)]
      have hv : (m2.vf 4).toInt ≠ -9223372036854775808 := by
        rw [ev]
        by_cases c4 : U = 4
        · rw [if_pos c4]
          decide
        · rw [if_neg c4]
          exact hx 4 (by omega)
      simp only [q130_15, q130_18, q130_19, q130_20, q130_23, q130_24, q130_25, q130_26, q130_29, q130_30, gF0, gF1, gF2, gF3, gF4, gF5, gF6, gF7, gF8, gF9, gF10, gF11, gF12, gF13, gF14, gF15, gF16, gF17, gF18, gF19, pF0, pF1, pF2, pF3, pF4, pF5, pF6, pF7, pF8, pF9, pF10, pF11, pF12, pF13, pF14, pF15, pF16, pF17, pF18, pF19, aI_mk, aL_mk, aA_mk, sI_mk, sL_mk, sA_mk, isO_mk, rl_some, rl_none, true_and, and_true, true_or, or_true, wr_1, bI_t r, z1, if_false, h2, oM, h8, p4, Int32.reduceToNatClampNeg, e1]
      refine c100 D2 (hd r) hv (fun w3 u z f3 D3 => ?_)
      have KK := K w3 _ c r (f2.tr f3) D3 k2.up.dn
      rw [← ev] at KK
      simp only [q130_33, q130_36, q130_39, gF0, gF1, gF2, gF3, gF4, gF5, gF6, gF7, gF8, gF9, gF10, gF11, gF12, gF13, gF14, gF15, gF16, gF17, gF18, gF19, pF0, pF1, pF2, pF3, pF4, pF5, pF6, pF7, pF8, pF9, pF10, pF11, pF12, pF13, pF14, pF15, pF16, pF17, pF18, pF19, aI_mk, aL_mk, aA_mk, sI_mk, sL_mk, sA_mk, isO_mk, rl_some, rl_none, true_and, and_true, true_or, or_true, wr_1]
      exact KK
  · have := K0 c
    simp only [q130_0, q130_1, q130_4, q130_7, q130_10, gF0, gF1, gF2, gF3, gF4, gF5, gF6, gF7, gF8, gF9, gF10, gF11, gF12, gF13, gF14, gF15, gF16, gF17, gF18, gF19, pF0, pF1, pF2, pF3, pF4, pF5, pF6, pF7, pF8, pF9, pF10, pF11, pF12, pF13, pF14, pF15, pF16, pF17, pF18, pF19, aI_mk, aL_mk, aA_mk, sI_mk, sL_mk, sA_mk, isO_mk, rl_some, rl_none, true_and, and_true, true_or, or_true, wr_1, c97, bI_f c, not_true, if_false]
    exact this
theorem c129 {w : xW} {a t : Int32} (D : isM w m) (v : vM m.df n) (hp : 4 + m.df 1 = nI U) (hU : U = 4 ∨ U = 5) (hd : ¬ dtF U (mN m n) = 0 → 0 < (dtF U (mN m n)).toInt) (hx : ∀ a, a < U → (dtF U (enF (nI a) (mN m n) (mS m n))).toInt ≠ -9223372036854775808) (K0 : ¬ ((0 ≤ a ∧ a ≤ 4) ∧ 0 ≤ t ∧ t ≤ 1) → Q (some (.long (-2000000001))) w) (K1 : ∀ w2 m2, ((0 ≤ a ∧ a ≤ 4) ∧ 0 ≤ t ∧ t ≤ 1) → dtF U (mN m n) = 0 → fr w w2 51 60 → isM w2 m2 → kM m m2 → Q (some (.long (-2000000002))) w2) (K2 : ∀ w2 m2, a = 0 → (0 ≤ t ∧ t ≤ 1) → ¬ dtF U (mN m n) = 0 → fr w w2 51 60 → isM w2 m2 → kM m m2 → Q (some (.long (prt t (m.df 0).toInt64 1))) w2) (K : ∀ i w2 m2, i < 4 → a = nI (i + 1) → (0 ≤ t ∧ t ≤ 1) → ¬ dtF U (mN m n) = 0 → fr w w2 51 60 → isM w2 m2 → kM m m2 → Q (some (.long (prt t (dtF U (enF (nI i) (mN m n) (mS m n))) (dtF U (mN m n))))) w2) : Wp 129 b 0 [.ref 51, .int a, .int t] [] w Q := by
  have z1 : ¬ (1 : Int32) = 0 := by decide
  have h0 := D.1
  by_cases c : 0 ≤ a ∧ a ≤ 4
  · by_cases c2 : 0 ≤ t ∧ t ≤ 1
    · simp only [q129_0, q129_1, q129_2, q129_3, q129_6, q129_9, q129_10, q129_13, q129_16, q129_19, q129_20, q129_21, gF0, gF1, gF2, gF3, gF4, gF5, gF6, gF7, gF8, gF9, gF10, gF11, gF12, gF13, gF14, gF15, gF16, gF17, gF18, gF19, pF0, pF1, pF2, pF3, pF4, pF5, pF6, pF7, pF8, pF9, pF10, pF11, pF12, pF13, pF14, pF15, pF16, pF17, pF18, pF19, aI_mk, aL_mk, aA_mk, sI_mk, sL_mk, sA_mk, isO_mk, rl_some, rl_none, true_and, and_true, true_or, or_true, wr_1, c93, bI_t c, c97, bI_t c2, z1, not_false_eq_true, if_true, if_false, h0, oM]
      refine c108 D v hp hU (fun w2 m2 f2 D2 k2 e1 e2 e3 => ?_)
      have h2 := D2.1
      have h3 : rd w2 52 = .inl (0, 112, .inl m.df) := by
        have := D2.2.1
        rw [k2.1] at this
        exact this
      have h8 : rd w2 58 = .inl (1, 5, .inr (.inl m2.vf)) := D2.2.2.2.2.2.2.2.1
      by_cases r : dtF U (mN m n) = 0
      · have KK := K1 w2 m2 ⟨c, c2⟩ r f2 D2 k2
        simp only [q129_24, q129_27, q129_30, gF0, gF1, gF2, gF3, gF4, gF5, gF6, gF7, gF8, gF9, gF10, gF11, gF12, gF13, gF14, gF15, gF16, gF17, gF18, gF19, pF0, pF1, pF2, pF3, pF4, pF5, pF6, pF7, pF8, pF9, pF10, pF11, pF12, pF13, pF14, pF15, pF16, pF17, pF18, pF19, aI_mk, aL_mk, aA_mk, sI_mk, sL_mk, sA_mk, isO_mk, rl_some, rl_none, true_and, and_true, true_or, or_true, wr_1, bI_f (fun q : ¬ dtF U (mN m n) = 0 => q r), not_true, if_false]
        exact KK
      · by_cases a0 : a = 0
        · simp only [q129_24, q129_27, q129_30, q129_31, q129_32, q129_35, q129_36, q129_37, q129_40, q129_41, q129_42, q129_43, q129_44, q129_45, gF0, gF1, gF2, gF3, gF4, gF5, gF6, gF7, gF8, gF9, gF10, gF11, gF12, gF13, gF14, gF15, gF16, gF17, gF18, gF19, pF0, pF1, pF2, pF3, pF4, pF5, pF6, pF7, pF8, pF9, pF10, pF11, pF12, pF13, pF14, pF15, pF16, pF17, pF18, pF19, aI_mk, aL_mk, aA_mk, sI_mk, sL_mk, sA_mk, isO_mk, rl_some, rl_none, true_and, and_true, true_or, or_true, wr_1, bI_t r, z1, not_false_eq_true, if_true, a0, not_true, if_false, h2, oM, h3, p112, Int32.reduceToNatClampNeg]
          refine c100 D2 (by decide) ?_ (fun w3 u z f3 D3 => ?_)
          · rw [Int32.toInt_toInt64]
            have := Int32.le_toInt (m.df 0)
            have : (-2147483648 : Int) ≤ (m.df 0).toInt := this
            omega
          · have KK := K2 w3 _ a0 c2 r (f2.tr f3) D3 k2.up.dn
            simp only [q129_48, q129_51, q129_52, q129_53, q129_56, q129_57, q129_58, q129_59, q129_60, q129_61, q129_64, q129_65, q129_68, gF0, gF1, gF2, gF3, gF4, gF5, gF6, gF7, gF8, gF9, gF10, gF11, gF12, gF13, gF14, gF15, gF16, gF17, gF18, gF19, pF0, pF1, pF2, pF3, pF4, pF5, pF6, pF7, pF8, pF9, pF10, pF11, pF12, pF13, pF14, pF15, pF16, pF17, pF18, pF19, aI_mk, aL_mk, aA_mk, sI_mk, sL_mk, sA_mk, isO_mk, rl_some, rl_none, true_and, and_true, true_or, or_true, wr_1]
            exact KK
        · obtain ⟨i, hi, ei⟩ := row_of (r := a) (n := 5) (by omega) (Int32.not_lt.mpr c.1) (by
            have : (nI 5 : Int32) = 5 := rfl
            rw [this]
            have h4 := Int32.le_iff_toInt_le.mp c.2
            rw [Int32.lt_iff_toInt_lt]
            rw [show (4 : Int32).toInt = 4 from rfl] at h4
            rw [show (5 : Int32).toInt = 5 from rfl]
            omega)
          obtain ⟨j, rfl⟩ : ∃ j, i = j + 1 := ⟨i - 1, by
            have : i ≠ 0 := fun q => a0 (by rw [ei, q]; rfl)
            omega⟩
          have ej : nI (j + 1) - 1 = nI j := nI_pred j
          have hxj : x_pl (nI j) 5 := x_pl_nI (by omega) (by omega)
          have hclj : (nI j).toNatClampNeg = j := cl_nI (by omega)
          have ev : m2.vf j = dtF U (enF (nI j) (mN m n) (mS m n)) := e2 r j (by omega)
          have n0 : ¬ nI (j + 1) = 0 := by rw [← ei]; exact a0
          subst ei
          simp only [q129_24, q129_27, q129_30, q129_31, q129_32, q129_35, q129_36, q129_37, q129_40, q129_41, q129_42, q129_43, q129_44, q129_45, q129_48, q129_51, q129_52, q129_53, q129_56, q129_57, q129_58, q129_59, q129_60, q129_61, q129_64, q129_65, gF0, gF1, gF2, gF3, gF4, gF5, gF6, gF7, gF8, gF9, gF10, gF11, gF12, gF13, gF14, gF15, gF16, gF17, gF18, gF19, pF0, pF1, pF2, pF3, pF4, pF5, pF6, pF7, pF8, pF9, pF10, pF11, pF12, pF13, pF14, pF15, pF16, pF17, pF18, pF19, aI_mk, aL_mk, aA_mk, sI_mk, sL_mk, sA_mk, isO_mk, rl_some, rl_none, true_and, and_true, true_or, or_true, wr_1, bI_t r, z1, not_false_eq_true, if_true, n0, if_false, h2, oM, h8, ej, hxj, hclj, ev, e1]
          refine c100 D2 (hd r) (hx j (by omega)) (fun w3 u z f3 D3 => ?_)
          have KK := K j w3 _ (by omega) rfl c2 r (f2.tr f3) D3 k2.up.dn
          simp only [q129_68, gF0, gF1, gF2, gF3, gF4, gF5, gF6, gF7, gF8, gF9, gF10, gF11, gF12, gF13, gF14, gF15, gF16, gF17, gF18, gF19, pF0, pF1, pF2, pF3, pF4, pF5, pF6, pF7, pF8, pF9, pF10, pF11, pF12, pF13, pF14, pF15, pF16, pF17, pF18, pF19, aI_mk, aL_mk, aA_mk, sI_mk, sL_mk, sA_mk, isO_mk, rl_some, rl_none, true_and, and_true, true_or, or_true, wr_1]
          exact KK
    · have := K0 (fun q => c2 q.2)
      simp only [q129_0, q129_1, q129_2, q129_3, q129_6, q129_9, q129_10, q129_13, q129_16, q129_19, gF0, gF1, gF2, gF3, gF4, gF5, gF6, gF7, gF8, gF9, gF10, gF11, gF12, gF13, gF14, gF15, gF16, gF17, gF18, gF19, pF0, pF1, pF2, pF3, pF4, pF5, pF6, pF7, pF8, pF9, pF10, pF11, pF12, pF13, pF14, pF15, pF16, pF17, pF18, pF19, aI_mk, aL_mk, aA_mk, sI_mk, sL_mk, sA_mk, isO_mk, rl_some, rl_none, true_and, and_true, true_or, or_true, wr_1, c93, bI_t c, c97, bI_f c2, z1, not_true, if_false]
      exact this
  · have := K0 (fun q => c q.1)
    simp only [q129_0, q129_1, q129_2, q129_3, q129_6, q129_9, q129_10, q129_13, q129_16, q129_19, gF0, gF1, gF2, gF3, gF4, gF5, gF6, gF7, gF8, gF9, gF10, gF11, gF12, gF13, gF14, gF15, gF16, gF17, gF18, gF19, pF0, pF1, pF2, pF3, pF4, pF5, pF6, pF7, pF8, pF9, pF10, pF11, pF12, pF13, pF14, pF15, pF16, pF17, pF18, pF19, aI_mk, aL_mk, aA_mk, sI_mk, sL_mk, sA_mk, isO_mk, rl_some, rl_none, true_and, and_true, true_or, or_true, wr_1, c93, bI_f c, if_true]
    exact this
theorem c131 {w : xW} {r k t : Int32} (D : isM w m) (v : vM m.df n) (hp : 4 + m.df 1 = nI U) (hU : U = 4 ∨ U = 5) (hd : ¬ dtF U (mN m n) = 0 → 0 < (dtF U (mN m n)).toInt) {V : Nat → Int64} (hV : ∀ a, a < U → V a = dtF U (enF (nI a) (mN m n) (mS m n))) (hx : ∀ i j, i < n → j < tkF (tD m.df) i → (rsF (m.df 0) (lD m.df) (rD m.df) (mD m.df) U (dtF U (mN m n)) V i j).toInt ≠ -9223372036854775808) (K0 : ¬ (((¬ r < 0 ∧ r < nI n) ∧ ¬ k < 0 ∧ k < tD m.df r.toNatClampNeg) ∧ 0 ≤ t ∧ t ≤ 1) → Q (some (.long (-2000000001))) w) (K1 : ∀ w2 m2, (((¬ r < 0 ∧ r < nI n) ∧ ¬ k < 0 ∧ k < tD m.df r.toNatClampNeg) ∧ 0 ≤ t ∧ t ≤ 1) → dtF U (mN m n) = 0 → fr w w2 51 60 → isM w2 m2 → kM m m2 → Q (some (.long (-2000000002))) w2) (K : ∀ i j w2 m2, i < n → j < tkF (tD m.df) i → r = nI i → k = nI j → (0 ≤ t ∧ t ≤ 1) → ¬ dtF U (mN m n) = 0 → fr w w2 51 60 → isM w2 m2 → kM m m2 → Q (some (.long (prt t (rsF (m.df 0) (lD m.df) (rD m.df) (mD m.df) U (dtF U (mN m n)) V i j) (dtF U (mN m n))))) w2) : Wp 131 b 0 [.ref 51, .int r, .int k, .int t] [] w Q := by
  have z1 : ¬ (1 : Int32) = 0 := by decide
  have h0 := D.1
  have hn := v.2.1
  by_cases c1 : (¬ r < 0 ∧ r < nI n) ∧ ¬ k < 0 ∧ k < tD m.df r.toNatClampNeg
  · by_cases c2 : 0 ≤ t ∧ t ≤ 1
    · simp only [q131_0, q131_1, q131_2, q131_3, q131_6, q131_9, q131_10, q131_13, q131_16, q131_19, q131_20, q131_21, gF0, gF1, gF2, gF3, gF4, gF5, gF6, gF7, gF8, gF9, gF10, gF11, gF12, gF13, gF14, gF15, gF16, gF17, gF18, gF19, pF0, pF1, pF2, pF3, pF4, pF5, pF6, pF7, pF8, pF9, pF10, pF11, pF12, pF13, pF14, pF15, pF16, pF17, pF18, pF19, aI_mk, aL_mk, aA_mk, sI_mk, sL_mk, sA_mk, isO_mk, rl_some, rl_none, true_and, and_true, true_or, or_true, wr_1, c95 D v, bI_t c1, c97, bI_t c2, z1, not_false_eq_true, if_true, if_false, h0, oM]
      refine c108 D v hp hU (fun w2 m2 f2 D2 k2 e1 e2 e3 => ?_)
      have h2 := D2.1
      by_cases rr : dtF U (mN m n) = 0
      · have KK := K1 w2 m2 ⟨c1, c2⟩ rr f2 D2 k2
        simp only [q131_24, q131_45, q131_48, gF0, gF1, gF2, gF3, gF4, gF5, gF6, gF7, gF8, gF9, gF10, gF11, gF12, gF13, gF14, gF15, gF16, gF17, gF18, gF19, pF0, pF1, pF2, pF3, pF4, pF5, pF6, pF7, pF8, pF9, pF10, pF11, pF12, pF13, pF14, pF15, pF16, pF17, pF18, pF19, aI_mk, aL_mk, aA_mk, sI_mk, sL_mk, sA_mk, isO_mk, rl_some, rl_none, true_and, and_true, true_or, or_true, wr_1, bI_f (fun q : ¬ dtF U (mN m n) = 0 => q rr), if_true]
        exact KK
      · obtain ⟨i, hi, er⟩ := row_of hn c1.1.1 c1.1.2
        have hcl : (nI i).toNatClampNeg = i := cl_nI (by omega)
        obtain ⟨t1, t2⟩ := v.2.2 i hi
        have c1' := c1.2
        rw [er, hcl, t1] at c1'
        obtain ⟨j, hj, ek⟩ := row_of (n := tkF (tD m.df) i) (by omega) c1'.1 c1'.2
        have hp2 : 4 + m2.df 1 = nI U := by rw [k2.1, hp]
        have erM : rM m2 U i j = rsF (m.df 0) (lD m.df) (rD m.df) (mD m.df) U (dtF U (mN m n)) V i j := by
          unfold rM
          rw [k2.1, e1]
          unfold rsF
          exact foldN_congr U 0 _ (fun a z _ hz => by rw [e2 rr z (by omega), hV z (by omega)])
        have KK := fun w3 m3 => K i j w3 m3 hi hj er ek c2 rr
        subst er
        subst ek
        simp only [q131_24, q131_27, q131_28, q131_29, q131_30, q131_31, q131_34, q131_35, q131_38, q131_39, gF0, gF1, gF2, gF3, gF4, gF5, gF6, gF7, gF8, gF9, gF10, gF11, gF12, gF13, gF14, gF15, gF16, gF17, gF18, gF19, pF0, pF1, pF2, pF3, pF4, pF5, pF6, pF7, pF8, pF9, pF10, pF11, pF12, pF13, pF14, pF15, pF16, pF17, pF18, pF19, aI_mk, aL_mk, aA_mk, sI_mk, sL_mk, sA_mk, isO_mk, rl_some, rl_none, true_and, and_true, true_or, or_true, wr_1, bI_t rr, z1, if_false, h2, oM, c109 D2 hp2 (show U ≤ 5 by omega) (show i < 12 by omega) (show j < 6 by omega), erM, e1]
        refine c100 D2 (hd rr) (hx i j hi hj) (fun w3 u z f3 D3 => ?_)
        have KK := KK w3 _ (f2.tr f3) D3 k2.up.dn
        simp only [q131_42, q131_45, q131_48, gF0, gF1, gF2, gF3, gF4, gF5, gF6, gF7, gF8, gF9, gF10, gF11, gF12, gF13, gF14, gF15, gF16, gF17, gF18, gF19, pF0, pF1, pF2, pF3, pF4, pF5, pF6, pF7, pF8, pF9, pF10, pF11, pF12, pF13, pF14, pF15, pF16, pF17, pF18, pF19, aI_mk, aL_mk, aA_mk, sI_mk, sL_mk, sA_mk, isO_mk, rl_some, rl_none, true_and, and_true, true_or, or_true, wr_1]
        exact KK
    · have := K0 (fun q => c2 q.2)
      simp only [q131_0, q131_1, q131_2, q131_3, q131_6, q131_9, q131_10, q131_13, q131_16, q131_19, gF0, gF1, gF2, gF3, gF4, gF5, gF6, gF7, gF8, gF9, gF10, gF11, gF12, gF13, gF14, gF15, gF16, gF17, gF18, gF19, pF0, pF1, pF2, pF3, pF4, pF5, pF6, pF7, pF8, pF9, pF10, pF11, pF12, pF13, pF14, pF15, pF16, pF17, pF18, pF19, aI_mk, aL_mk, aA_mk, sI_mk, sL_mk, sA_mk, isO_mk, rl_some, rl_none, true_and, and_true, true_or, or_true, wr_1, c95 D v, bI_t c1, c97, bI_f c2, z1, not_true, if_false, h0, oM]
      exact this
  · have := K0 (fun q => c1 q.1)
    simp only [q131_0, q131_1, q131_2, q131_3, q131_6, q131_9, q131_10, q131_13, q131_16, q131_19, gF0, gF1, gF2, gF3, gF4, gF5, gF6, gF7, gF8, gF9, gF10, gF11, gF12, gF13, gF14, gF15, gF16, gF17, gF18, gF19, pF0, pF1, pF2, pF3, pF4, pF5, pF6, pF7, pF8, pF9, pF10, pF11, pF12, pF13, pF14, pF15, pF16, pF17, pF18, pF19, aI_mk, aL_mk, aA_mk, sI_mk, sL_mk, sA_mk, isO_mk, rl_some, rl_none, true_and, and_true, true_or, or_true, wr_1, c95 D v, bI_f c1, if_true, h0, oM]
    exact this
end MRL
