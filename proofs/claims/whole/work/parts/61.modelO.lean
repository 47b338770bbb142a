theorem x_04 {a : Int32} (h : 0 ≤ a ∧ a ≤ 4) : a = 0 ∨ a = 1 ∨ a = 2 ∨ a = 3 ∨ a = 4 := by
  obtain ⟨h1, h2⟩ := h
  rw [Int32.le_iff_toInt_le, show (0 : Int32).toInt = 0 from rfl] at h1
  rw [Int32.le_iff_toInt_le, show (4 : Int32).toInt = 4 from rfl] at h2
  have : a.toInt = 0 ∨ a.toInt = 1 ∨ a.toInt = 2 ∨ a.toInt = 3 ∨ a.toInt = 4 := by omega
  rcases this with q | q | q | q | q
  · exact Or.inl (Int32.toInt_inj.mp q)
  · exact Or.inr (Or.inl (Int32.toInt_inj.mp q))
  · exact Or.inr (Or.inr (Or.inl (Int32.toInt_inj.mp q)))
  · exact Or.inr (Or.inr (Or.inr (Or.inl (Int32.toInt_inj.mp q))))
  · exact Or.inr (Or.inr (Or.inr (Or.inr (Int32.toInt_inj.mp q))))
section MRO
variable {b : Nat} {m : xM} {n U : Nat} {Q : Option Value → xW → Prop}
theorem c120 {w : xW} {r a : Int32} (D : isM w m) (v : vM m.df n) (hp : 4 + m.df 1 = nI U) (hU : U = 4 ∨ U = 5) (hw : m.wr = -1) (K0 : ¬ ((¬ r < 0 ∧ r < nI n) ∧ 0 ≤ a ∧ a ≤ 4) → Q (some (.int (-2000000001))) w) (Ka : ∀ i, i < n → r = nI i → a = 0 → Q (some (.int (lD m.df i))) w) (Kb : ∀ i, i < n → r = nI i → a = 1 → Q (some (.int (rD m.df i))) w) (Kc : ∀ i, i < n → r = nI i → a = 2 → Q (some (.int (tD m.df i))) w) (Kd : ∀ i, i < n → r = nI i → a = 3 → Q (some (.int (nfF (swF n (lD m.df) (rD m.df) (tD m.df) i)))) w) (Ke : ∀ i w2 m2, i < n → r = nI i → a = 4 → fr w w2 51 60 → isM w2 m2 → kM m m2 → Q (some (.int (bI (neM m n U i)))) w2) : Wp 120 b 0 [.ref 51, .int r, .int a] [] w Q := by
  have h0 := D.1
  have h1 := D.2.1
  have hn := v.2.1
  have z1 : ¬ (1 : Int32) = 0 := by decide
  by_cases c1 : ¬ r < 0 ∧ r < nI n
  · by_cases c2 : 0 ≤ a ∧ a ≤ 4
    · obtain ⟨i, hi, rfl⟩ := row_of hn c1.1 c1.2
      have i12 : i < 12 := by omega
      simp only [q120_0, q120_1, q120_2, q120_5, q120_8, q120_9, q120_10, q120_11, q120_14, q120_17, q120_19, q120_20, gF0, gF1, gF2, gF3, gF4, gF5, gF6, gF7, gF8, gF9, gF10, gF11, gF12, gF13, gF14, gF15, gF16, gF17, gF18, gF19, pF0, pF1, pF2, pF3, pF4, pF5, pF6, pF7, pF8, pF9, pF10, pF11, pF12, pF13, pF14, pF15, pF16, pF17, pF18, pF19, aI_mk, aL_mk, aA_mk, sI_mk, sL_mk, sA_mk, isO_mk, rl_some, rl_none, true_and, and_true, true_or, or_true, wr_1, c94 D v, bI_t c1, c93, bI_t c2, z1, if_false, not_false_eq_true, if_true, h0, oM]
      rcases x_04 c2 with rfl | rfl | rfl | rfl | rfl
      · have KK := Ka i hi rfl rfl
        simp only [q120_21_c0]
        simp only [q120_52, q120_53, q120_56, q120_57, q120_58, q120_59, q120_60, gF0, gF1, gF2, gF3, gF4, gF5, gF6, gF7, gF8, gF9, gF10, gF11, gF12, gF13, gF14, gF15, gF16, gF17, gF18, gF19, pF0, pF1, pF2, pF3, pF4, pF5, pF6, pF7, pF8, pF9, pF10, pF11, pF12, pF13, pF14, pF15, pF16, pF17, pF18, pF19, aI_mk, aL_mk, aA_mk, sI_mk, sL_mk, sA_mk, isO_mk, rl_some, rl_none, true_and, and_true, true_or, or_true, wr_1, h0, oM, h1, ix4 i12]
        exact KK
      · have KK := Kb i hi rfl rfl
        simp only [q120_21_c1]
        simp only [q120_61, q120_62, q120_65, q120_67, q120_68, q120_69, q120_70, gF0, gF1, gF2, gF3, gF4, gF5, gF6, gF7, gF8, gF9, gF10, gF11, gF12, gF13, gF14, gF15, gF16, gF17, gF18, gF19, pF0, pF1, pF2, pF3, pF4, pF5, pF6, pF7, pF8, pF9, pF10, pF11, pF12, pF13, pF14, pF15, pF16, pF17, pF18, pF19, aI_mk, aL_mk, aA_mk, sI_mk, sL_mk, sA_mk, isO_mk, rl_some, rl_none, true_and, and_true, true_or, or_true, wr_1, h0, oM, h1, ix16 i12]
        exact KK
      · have KK := Kc i hi rfl rfl
        simp only [q120_21_c2]
        simp only [q120_71, q120_72, q120_75, q120_77, q120_78, q120_79, q120_80, gF0, gF1, gF2, gF3, gF4, gF5, gF6, gF7, gF8, gF9, gF10, gF11, gF12, gF13, gF14, gF15, gF16, gF17, gF18, gF19, pF0, pF1, pF2, pF3, pF4, pF5, pF6, pF7, pF8, pF9, pF10, pF11, pF12, pF13, pF14, pF15, pF16, pF17, pF18, pF19, aI_mk, aL_mk, aA_mk, sI_mk, sL_mk, sA_mk, isO_mk, rl_some, rl_none, true_and, and_true, true_or, or_true, wr_1, h0, oM, h1, ix28 i12]
        exact KK
      · have KK := Kd i hi rfl rfl
        unfold nfF at KK
        simp only [q120_21_c3]
        simp only [q120_81, q120_82, q120_83, q120_86, q120_87, q120_90, q120_92, q120_95, q120_96, q120_97, q120_100, gF0, gF1, gF2, gF3, gF4, gF5, gF6, gF7, gF8, gF9, gF10, gF11, gF12, gF13, gF14, gF15, gF16, gF17, gF18, gF19, pF0, pF1, pF2, pF3, pF4, pF5, pF6, pF7, pF8, pF9, pF10, pF11, pF12, pF13, pF14, pF15, pF16, pF17, pF18, pF19, aI_mk, aL_mk, aA_mk, sI_mk, sL_mk, sA_mk, isO_mk, rl_some, rl_none, true_and, and_true, true_or, or_true, wr_1, h0, oM, c119 D v hi]
        by_cases c : swF n (lD m.df) (rD m.df) (tD m.df) i = -1
        · rw [if_pos c] at KK
          simp only [c, not_true, if_false]
          exact KK
        · rw [if_neg c] at KK
          simp only [c, not_false_eq_true, if_true]
          exact KK
      · rw [q120_21_d (Or.inr (by decide))]
        simp only [q120_101, q120_102, q120_103, gF0, gF1, gF2, gF3, gF4, gF5, gF6, gF7, gF8, gF9, gF10, gF11, gF12, gF13, gF14, gF15, gF16, gF17, gF18, gF19, pF0, pF1, pF2, pF3, pF4, pF5, pF6, pF7, pF8, pF9, pF10, pF11, pF12, pF13, pF14, pF15, pF16, pF17, pF18, pF19, aI_mk, aL_mk, aA_mk, sI_mk, sL_mk, sA_mk, isO_mk, rl_some, rl_none, true_and, and_true, true_or, or_true, wr_1, h0, oM]
        refine c110 D v hp hU hw (fun w2 m2 f2 D2 k2 => ?_)
        have KK := Ke i w2 m2 hi rfl rfl f2 D2 k2
        by_cases c : neM m n U i
        · rw [bI_t c] at KK ⊢
          simp only [q120_106, q120_109, q120_110, q120_113, q120_114, gF0, gF1, gF2, gF3, gF4, gF5, gF6, gF7, gF8, gF9, gF10, gF11, gF12, gF13, gF14, gF15, gF16, gF17, gF18, gF19, pF0, pF1, pF2, pF3, pF4, pF5, pF6, pF7, pF8, pF9, pF10, pF11, pF12, pF13, pF14, pF15, pF16, pF17, pF18, pF19, aI_mk, aL_mk, aA_mk, sI_mk, sL_mk, sA_mk, isO_mk, rl_some, rl_none, true_and, and_true, true_or, or_true, wr_1, z1, if_false]
          exact KK
        · rw [bI_f c] at KK ⊢
          simp only [q120_106, q120_109, q120_110, q120_113, q120_114, gF0, gF1, gF2, gF3, gF4, gF5, gF6, gF7, gF8, gF9, gF10, gF11, gF12, gF13, gF14, gF15, gF16, gF17, gF18, gF19, pF0, pF1, pF2, pF3, pF4, pF5, pF6, pF7, pF8, pF9, pF10, pF11, pF12, pF13, pF14, pF15, pF16, pF17, pF18, pF19, aI_mk, aL_mk, aA_mk, sI_mk, sL_mk, sA_mk, isO_mk, rl_some, rl_none, true_and, and_true, true_or, or_true, wr_1, if_true]
          exact KK
    · have := K0 (fun q => c2 q.2)
      simp only [q120_0, q120_1, q120_2, q120_5, q120_8, q120_9, q120_10, q120_11, q120_14, q120_17, q120_19, gF0, gF1, gF2, gF3, gF4, gF5, gF6, gF7, gF8, gF9, gF10, gF11, gF12, gF13, gF14, gF15, gF16, gF17, gF18, gF19, pF0, pF1, pF2, pF3, pF4, pF5, pF6, pF7, pF8, pF9, pF10, pF11, pF12, pF13, pF14, pF15, pF16, pF17, pF18, pF19, aI_mk, aL_mk, aA_mk, sI_mk, sL_mk, sA_mk, isO_mk, rl_some, rl_none, true_and, and_true, true_or, or_true, wr_1, c94 D v, bI_t c1, c93, bI_f c2, z1, if_false, not_true, h0, oM]
      exact this
  · have := K0 (fun q => c1 q.1)
    simp only [q120_0, q120_1, q120_2, q120_5, q120_8, q120_9, q120_10, q120_11, q120_14, q120_17, q120_19, gF0, gF1, gF2, gF3, gF4, gF5, gF6, gF7, gF8, gF9, gF10, gF11, gF12, gF13, gF14, gF15, gF16, gF17, gF18, gF19, pF0, pF1, pF2, pF3, pF4, pF5, pF6, pF7, pF8, pF9, pF10, pF11, pF12, pF13, pF14, pF15, pF16, pF17, pF18, pF19, aI_mk, aL_mk, aA_mk, sI_mk, sL_mk, sA_mk, isO_mk, rl_some, rl_none, true_and, and_true, true_or, or_true, wr_1, c94 D v, bI_f c1, if_true, h0, oM]
    exact this
end MRO
