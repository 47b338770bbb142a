/-! The class' face: what its methods share -/
theorem x_01 {x : Int32} : (0 ≤ x ∧ x ≤ 1) ↔ (x = 0 ∨ x = 1) := by
  rw [Int32.le_iff_toInt_le, Int32.le_iff_toInt_le, show (0 : Int32).toInt = 0 from rfl, show (1 : Int32).toInt = 1 from rfl]
  constructor
  · intro h
    rcases (show x.toInt = 0 ∨ x.toInt = 1 by omega) with q | q
    · exact Or.inl (Int32.toInt_inj.mp q)
    · exact Or.inr (Int32.toInt_inj.mp q)
  · rintro (rfl | rfl) <;> decide
theorem x_lt5 {x : Int32} : (5 : Int32) ≤ x ↔ ¬ x ≤ 4 := by
  rw [Int32.le_iff_toInt_le, Int32.le_iff_toInt_le, show (4 : Int32).toInt = 4 from rfl, show (5 : Int32).toInt = 5 from rfl]
  omega
theorem x_3 (a : Int32) : (a.toInt < 0 ∨ 2 < a.toInt) ∨ a = 0 ∨ a = 1 ∨ a = 2 := by
  rcases (show (a.toInt < 0 ∨ 2 < a.toInt) ∨ a.toInt = 0 ∨ a.toInt = 1 ∨ a.toInt = 2 by omega) with h | h | h | h
  · exact Or.inl h
  · exact Or.inr (Or.inl (Int32.toInt_inj.mp h))
  · exact Or.inr (Or.inr (Or.inl (Int32.toInt_inj.mp h)))
  · exact Or.inr (Or.inr (Or.inr (Int32.toInt_inj.mp h)))
theorem x_5 (a : Int32) : (a.toInt < 0 ∨ 4 < a.toInt) ∨ a = 0 ∨ a = 1 ∨ a = 2 ∨ a = 3 ∨ a = 4 := by
  rcases (show (a.toInt < 0 ∨ 4 < a.toInt) ∨ a.toInt = 0 ∨ a.toInt = 1 ∨ a.toInt = 2 ∨ a.toInt = 3 ∨ a.toInt = 4 by omega) with h | h | h | h | h | h
  · exact Or.inl h
  · exact Or.inr (Or.inl (Int32.toInt_inj.mp h))
  · exact Or.inr (Or.inr (Or.inl (Int32.toInt_inj.mp h)))
  · exact Or.inr (Or.inr (Or.inr (Or.inl (Int32.toInt_inj.mp h))))
  · exact Or.inr (Or.inr (Or.inr (Or.inr (Or.inl (Int32.toInt_inj.mp h)))))
  · exact Or.inr (Or.inr (Or.inr (Or.inr (Or.inr (Int32.toInt_inj.mp h)))))
section FA
variable {w : xW} {b : Nat} {Q : Option Value → xW → Prop}
theorem c85 {x : Int32} : Wp 85 b 0 [.int x] [] w Q ↔ Q (some (.int (bI (1 ≤ x ∧ x ≤ 31)))) w := by
  simp only [q85_0, q85_1, q85_2, q85_5, q85_6, q85_8, q85_11, q85_12, q85_15, q85_16, gF0, gF1, gF2, gF3, gF4, gF5, gF6, gF7, gF8, gF9, gF10, gF11, gF12, gF13, gF14, gF15, gF16, gF17, gF18, gF19, pF0, pF1, pF2, pF3, pF4, pF5, pF6, pF7, pF8, pF9, pF10, pF11, pF12, pF13, pF14, pF15, pF16, pF17, pF18, pF19, aI_mk, aL_mk, aA_mk, sI_mk, sL_mk, sA_mk, isO_mk, rl_some, rl_none, true_and, and_true, true_or, or_true, wr_1, z_01, o_01]
  unfold bI
  by_cases c1 : x < 1
  · simp [c1, Int32.not_le.mpr c1]
  · by_cases c2 : 31 < x
    · simp [c1, c2, Int32.not_le.mpr c2]
    · simp [c1, c2, Int32.not_lt.mp c1, Int32.not_lt.mp c2]
theorem c86 {x : Int32} : Wp 86 b 0 [.int x] [] w Q ↔ Q (some (.int (bI (0 ≤ x ∧ x ≤ 4)))) w := by
  simp only [q86_0, q86_1, q86_4, q86_5, q86_6, q86_9, q86_10, q86_13, q86_14, gF0, gF1, gF2, gF3, gF4, gF5, gF6, gF7, gF8, gF9, gF10, gF11, gF12, gF13, gF14, gF15, gF16, gF17, gF18, gF19, pF0, pF1, pF2, pF3, pF4, pF5, pF6, pF7, pF8, pF9, pF10, pF11, pF12, pF13, pF14, pF15, pF16, pF17, pF18, pF19, aI_mk, aL_mk, aA_mk, sI_mk, sL_mk, sA_mk, isO_mk, rl_some, rl_none, true_and, and_true, true_or, or_true, wr_1, z_01, o_01, x_lt5]
  unfold bI
  by_cases c1 : x < 0
  · simp [c1, Int32.not_le.mpr c1]
  · by_cases c2 : x ≤ 4
    · simp [c1, c2, Int32.not_lt.mp c1]
    · simp [c1, c2]
theorem c87 {x : Int32} : Wp 87 b 0 [.int x] [] w Q ↔ Q (some (.int (bI (0 ≤ x ∧ x ≤ 1)))) w := by
  rw [bI_congr x_01]
  simp only [q87_0, q87_1, q87_4, q87_5, q87_6, q87_9, q87_10, q87_13, q87_14, gF0, gF1, gF2, gF3, gF4, gF5, gF6, gF7, gF8, gF9, gF10, gF11, gF12, gF13, gF14, gF15, gF16, gF17, gF18, gF19, pF0, pF1, pF2, pF3, pF4, pF5, pF6, pF7, pF8, pF9, pF10, pF11, pF12, pF13, pF14, pF15, pF16, pF17, pF18, pF19, aI_mk, aL_mk, aA_mk, sI_mk, sL_mk, sA_mk, isO_mk, rl_some, rl_none, true_and, and_true, true_or, or_true, wr_1, z_01, o_01]
  unfold bI
  by_cases c1 : x = 0
  · simp [c1]
  · by_cases c2 : x = 1
    · simp [c2]
    · simp [c1, c2]
theorem c88 {x : Int32} : Wp 88 b 0 [.int x] [] w Q ↔ Q (some (.int (nfF x))) w := by
  unfold nfF
  simp only [q88_0, q88_1, q88_2, q88_5, q88_7, q88_10, q88_11, gF0, gF1, gF2, gF3, gF4, gF5, gF6, gF7, gF8, gF9, gF10, gF11, gF12, gF13, gF14, gF15, gF16, gF17, gF18, gF19, pF0, pF1, pF2, pF3, pF4, pF5, pF6, pF7, pF8, pF9, pF10, pF11, pF12, pF13, pF14, pF15, pF16, pF17, pF18, pF19, aI_mk, aL_mk, aA_mk, sI_mk, sL_mk, sA_mk, isO_mk, rl_some, rl_none, true_and, and_true, true_or, or_true, wr_1]
  by_cases c1 : x = -1
  · simp [c1]
  · simp [c1]
theorem c89 {c : Prop} [Decidable c] : Wp 89 b 0 [.int (bI c)] [] w Q ↔ Q (some (.int (bI c))) w := by
  simp only [q89_0, q89_1, q89_4, q89_5, q89_8, q89_9, gF0, gF1, gF2, gF3, gF4, gF5, gF6, gF7, gF8, gF9, gF10, gF11, gF12, gF13, gF14, gF15, gF16, gF17, gF18, gF19, pF0, pF1, pF2, pF3, pF4, pF5, pF6, pF7, pF8, pF9, pF10, pF11, pF12, pF13, pF14, pF15, pF16, pF17, pF18, pF19, aI_mk, aL_mk, aA_mk, sI_mk, sL_mk, sA_mk, isO_mk, rl_some, rl_none, true_and, and_true, true_or, or_true, wr_1]
  by_cases c1 : c
  · simp [bI_t c1]
  · simp [bI_f c1]
theorem c82 {s x : Int32} (K0 : ¬ okS s x → Q (some (.int 0)) w) (K1 : okS s x → Q (some (.int 1)) w) : Wp 82 b 0 [.int s, .int x] [] w Q := by
  rw [q82_0]
  rcases x_3 s with h | rfl | rfl | rfl
  · rw [q82_1_d h]
    simp only [q82_64, q82_65, gF0, gF1, gF2, gF3, gF4, gF5, gF6, gF7, gF8, gF9, gF10, gF11, gF12, gF13, gF14, gF15, gF16, gF17, gF18, gF19, pF0, pF1, pF2, pF3, pF4, pF5, pF6, pF7, pF8, pF9, pF10, pF11, pF12, pF13, pF14, pF15, pF16, pF17, pF18, pF19, aI_mk, aL_mk, aA_mk, sI_mk, sL_mk, sA_mk, isO_mk, rl_some, rl_none, true_and, and_true, true_or, or_true, wr_1, z_01]
    refine K0 (fun q => ?_)
    rcases q with q | q | q
    · rw [q.1] at h
      simp at h
    · rw [q.1] at h
      simp at h
    · rw [q.1] at h
      simp at h
  · rw [q82_1_c0]
    simp only [q82_28, q82_29, q82_32, gF0, gF1, gF2, gF3, gF4, gF5, gF6, gF7, gF8, gF9, gF10, gF11, gF12, gF13, gF14, gF15, gF16, gF17, gF18, gF19, pF0, pF1, pF2, pF3, pF4, pF5, pF6, pF7, pF8, pF9, pF10, pF11, pF12, pF13, pF14, pF15, pF16, pF17, pF18, pF19, aI_mk, aL_mk, aA_mk, sI_mk, sL_mk, sA_mk, isO_mk, rl_some, rl_none, true_and, and_true, true_or, or_true, wr_1, c84, bI_01]
    by_cases c : -100000 ≤ x ∧ x ≤ 100000
    · rw [bI_t c]
      exact K1 (Or.inl ⟨rfl, c⟩)
    · rw [bI_f c]
      refine K0 (fun q => ?_)
      rcases q with q | q | q
      · exact c q.2
      · exact absurd q.1 (by decide)
      · exact absurd q.1 (by decide)
  · rw [q82_1_c1]
    by_cases c1 : x = 0
    · simp only [q82_33, q82_34, q82_37, q82_38, q82_39, q82_42, q82_43, q82_46, q82_47, gF0, gF1, gF2, gF3, gF4, gF5, gF6, gF7, gF8, gF9, gF10, gF11, gF12, gF13, gF14, gF15, gF16, gF17, gF18, gF19, pF0, pF1, pF2, pF3, pF4, pF5, pF6, pF7, pF8, pF9, pF10, pF11, pF12, pF13, pF14, pF15, pF16, pF17, pF18, pF19, aI_mk, aL_mk, aA_mk, sI_mk, sL_mk, sA_mk, isO_mk, rl_some, rl_none, true_and, and_true, true_or, or_true, wr_1, c1, if_true, o_01]
      exact K1 (Or.inr (Or.inl ⟨rfl, x_01.mpr (Or.inl c1)⟩))
    · by_cases c2 : x = 1
      · have z1 : ¬ (1 : Int32) = 0 := by decide
        simp only [q82_33, q82_34, q82_37, q82_38, q82_39, q82_42, q82_43, q82_46, q82_47, gF0, gF1, gF2, gF3, gF4, gF5, gF6, gF7, gF8, gF9, gF10, gF11, gF12, gF13, gF14, gF15, gF16, gF17, gF18, gF19, pF0, pF1, pF2, pF3, pF4, pF5, pF6, pF7, pF8, pF9, pF10, pF11, pF12, pF13, pF14, pF15, pF16, pF17, pF18, pF19, aI_mk, aL_mk, aA_mk, sI_mk, sL_mk, sA_mk, isO_mk, rl_some, rl_none, true_and, and_true, true_or, or_true, wr_1, c2, z1, not_true, if_false, o_01]
        exact K1 (Or.inr (Or.inl ⟨rfl, x_01.mpr (Or.inr c2)⟩))
      · simp only [q82_33, q82_34, q82_37, q82_38, q82_39, q82_42, q82_43, q82_46, q82_47, gF0, gF1, gF2, gF3, gF4, gF5, gF6, gF7, gF8, gF9, gF10, gF11, gF12, gF13, gF14, gF15, gF16, gF17, gF18, gF19, pF0, pF1, pF2, pF3, pF4, pF5, pF6, pF7, pF8, pF9, pF10, pF11, pF12, pF13, pF14, pF15, pF16, pF17, pF18, pF19, aI_mk, aL_mk, aA_mk, sI_mk, sL_mk, sA_mk, isO_mk, rl_some, rl_none, true_and, and_true, true_or, or_true, wr_1, c1, c2, not_false_eq_true, if_true, if_false, z_01]
        refine K0 (fun q => ?_)
        rcases q with q | q | q
        · exact absurd q.1 (by decide)
        · rcases x_01.mp q.2 with e | e
          · exact c1 e
          · exact c2 e
        · exact absurd q.1 (by decide)
  · rw [q82_1_c2]
    by_cases c1 : x < 0
    · simp only [q82_48, q82_49, q82_52, q82_53, q82_55, q82_58, q82_59, q82_62, q82_63, gF0, gF1, gF2, gF3, gF4, gF5, gF6, gF7, gF8, gF9, gF10, gF11, gF12, gF13, gF14, gF15, gF16, gF17, gF18, gF19, pF0, pF1, pF2, pF3, pF4, pF5, pF6, pF7, pF8, pF9, pF10, pF11, pF12, pF13, pF14, pF15, pF16, pF17, pF18, pF19, aI_mk, aL_mk, aA_mk, sI_mk, sL_mk, sA_mk, isO_mk, rl_some, rl_none, true_and, and_true, true_or, or_true, wr_1, c1, if_true, z_01]
      refine K0 (fun q => ?_)
      rcases q with q | q | q
      · exact absurd q.1 (by decide)
      · exact absurd q.1 (by decide)
      · exact absurd c1 (Int32.not_lt.mpr q.2.1)
    · by_cases c2 : 100000 < x
      · simp only [q82_48, q82_49, q82_52, q82_53, q82_55, q82_58, q82_59, q82_62, q82_63, gF0, gF1, gF2, gF3, gF4, gF5, gF6, gF7, gF8, gF9, gF10, gF11, gF12, gF13, gF14, gF15, gF16, gF17, gF18, gF19, pF0, pF1, pF2, pF3, pF4, pF5, pF6, pF7, pF8, pF9, pF10, pF11, pF12, pF13, pF14, pF15, pF16, pF17, pF18, pF19, aI_mk, aL_mk, aA_mk, sI_mk, sL_mk, sA_mk, isO_mk, rl_some, rl_none, true_and, and_true, true_or, or_true, wr_1, c1, c2, if_true, if_false, z_01]
        refine K0 (fun q => ?_)
        rcases q with q | q | q
        · exact absurd q.1 (by decide)
        · exact absurd q.1 (by decide)
        · exact absurd c2 (Int32.not_lt.mpr q.2.2)
      · simp only [q82_48, q82_49, q82_52, q82_53, q82_55, q82_58, q82_59, q82_62, q82_63, gF0, gF1, gF2, gF3, gF4, gF5, gF6, gF7, gF8, gF9, gF10, gF11, gF12, gF13, gF14, gF15, gF16, gF17, gF18, gF19, pF0, pF1, pF2, pF3, pF4, pF5, pF6, pF7, pF8, pF9, pF10, pF11, pF12, pF13, pF14, pF15, pF16, pF17, pF18, pF19, aI_mk, aL_mk, aA_mk, sI_mk, sL_mk, sA_mk, isO_mk, rl_some, rl_none, true_and, and_true, true_or, or_true, wr_1, c1, c2, if_false, o_01]
        exact K1 (Or.inr (Or.inr ⟨rfl, Int32.not_lt.mp c1, Int32.not_lt.mp c2⟩))
end FA
