section MR4
variable {w : xW} {b : Nat} {m : xM} {n : Nat} {Q : Option Value → xW → Prop}
/-- a place, or the word for none -/
def nfF (x : Int32) : Int32 := if x = -1 then -2000000004 else x
theorem nfF_n {j : Nat} (h : j ≤ 1000) : nfF (nI j) = nI j := if_neg (nI_m1 h)
theorem nfF_m {x : Int32} (h : x = -1 ∨ ∃ j, j ≤ 1000 ∧ x = nI j) : nfF x = -2000000004 ↔ x = -1 := by
  rcases h with rfl | ⟨j, hj, rfl⟩
  · exact ⟨fun _ => rfl, fun _ => rfl⟩
  · rw [nfF_n hj]
    refine ⟨fun e => ?_, fun e => absurd e (nI_m1 hj)⟩
    have := nI_pos (n := j) (by omega)
    rw [e] at this
    exact absurd (by decide) this
theorem l142 (D : isM w m) (v : vM m.df n) (r : vR n (tD m.df) (mD m.df)) : ∀ (k i : Nat) (a : Int32 × Int64 × Int64) (v7 v8 v10 : Value), i + k = n → (a.1 = -1 ∨ ∃ j, j ≤ 1000 ∧ a.1 = nI j) → (Wp 142 b 11 [.ref 51, .int (nfF a.1), .long a.2.1, x_no, .long a.2.2, x_no, .int (nI i), v7, v8, x_no, v10, x_no] [] w Q ↔ Q (some (.int (nfF (foldN (msG n (lD m.df) (rD m.df) (tD m.df) (mD m.df)) k i a).1))) w) := by
  have D' := D
  have v' := v
  obtain ⟨h0, h1, -⟩ := D
  obtain ⟨v0, hn, -⟩ := v
  intro k
  induction k with
  | zero =>
    intro i a v7 v8 v10 hi ha
    have hc : nI n ≤ nI i := nI_le (by omega) (by omega)
    simp only [q142_11, q142_13, q142_14, q142_17, q142_18, q142_19, q142_123, q142_124, gF0, gF1, gF2, gF3, gF4, gF5, gF6, gF7, gF8, gF9, gF10, gF11, gF12, gF13, gF14, gF15, gF16, gF17, gF18, gF19, pF0, pF1, pF2, pF3, pF4, pF5, pF6, pF7, pF8, pF9, pF10, pF11, pF12, pF13, pF14, pF15, pF16, pF17, pF18, pF19, aI_mk, aL_mk, aA_mk, sI_mk, sL_mk, sA_mk, isO_mk, rl_some, rl_none, true_and, and_true, true_or, or_true, wr_1, h0, oM, h1, p112, Int32.reduceToNatClampNeg, v0, if_pos hc]
    rfl
  | succ k ih =>
    intro i a v7 v8 v10 hi ha
    have hc : ¬ nI n ≤ nI i := by rw [nI_le' (by omega) (by omega)]; omega
    simp only [q142_11]
    simp only [q142_13, q142_14, q142_17, q142_18, q142_19, q142_22, q142_23, q142_25, q142_28, gF0, gF1, gF2, gF3, gF4, gF5, gF6, gF7, gF8, gF9, gF10, gF11, gF12, gF13, gF14, gF15, gF16, gF17, gF18, gF19, pF0, pF1, pF2, pF3, pF4, pF5, pF6, pF7, pF8, pF9, pF10, pF11, pF12, pF13, pF14, pF15, pF16, pF17, pF18, pF19, aI_mk, aL_mk, aA_mk, sI_mk, sL_mk, sA_mk, isO_mk, rl_some, rl_none, true_and, and_true, true_or, or_true, wr_1, h0, oM, h1, p112, Int32.reduceToNatClampNeg, v0, if_neg hc, c119 D' v' (show i < n by omega)]
    show _ ↔ Q (some (.int (nfF (foldN (msG n (lD m.df) (rD m.df) (tD m.df) (mD m.df)) k (i + 1) (msG n (lD m.df) (rD m.df) (tD m.df) (mD m.df) a i)).1))) w
    have em : msG n (lD m.df) (rD m.df) (tD m.df) (mD m.df) a i = if swF n (lD m.df) (rD m.df) (tD m.df) i = -1 then a else if a.1 = -1 ∨ ¬ lg_cmp (abL (mnF (tD m.df) (mD m.df) i (swF n (lD m.df) (rD m.df) (tD m.df) i).toNatClampNeg) * a.2.2) (a.2.1 * mdF (tD m.df) i (swF n (lD m.df) (rD m.df) (tD m.df) i).toNatClampNeg) ≤ 0 then (nI i, abL (mnF (tD m.df) (mD m.df) i (swF n (lD m.df) (rD m.df) (tD m.df) i).toNatClampNeg), mdF (tD m.df) i (swF n (lD m.df) (rD m.df) (tD m.df) i).toNatClampNeg) else a := rfl
    rw [em]
    rcases swF_or n (lD m.df) (rD m.df) (tD m.df) i with e | ⟨j, hj, e, -, -⟩
    · simp only [q142_30, q142_32, q142_33, q142_117, q142_120, gF0, gF1, gF2, gF3, gF4, gF5, gF6, gF7, gF8, gF9, gF10, gF11, gF12, gF13, gF14, gF15, gF16, gF17, gF18, gF19, pF0, pF1, pF2, pF3, pF4, pF5, pF6, pF7, pF8, pF9, pF10, pF11, pF12, pF13, pF14, pF15, pF16, pF17, pF18, pF19, aI_mk, aL_mk, aA_mk, sI_mk, sL_mk, sA_mk, isO_mk, rl_some, rl_none, true_and, and_true, true_or, or_true, wr_1, e, if_true, nI_1]
      exact ih (i + 1) a _ _ _ (by omega) ha
    · have hm := nI_m1 (a := j) (by omega)
      have hcj : (nI j).toNatClampNeg = j := cl_nI (by omega)
      simp only [q142_30, q142_32, q142_33, q142_36, q142_37, q142_39, q142_41, q142_44, q142_46, q142_48, q142_49, q142_50, gF0, gF1, gF2, gF3, gF4, gF5, gF6, gF7, gF8, gF9, gF10, gF11, gF12, gF13, gF14, gF15, gF16, gF17, gF18, gF19, pF0, pF1, pF2, pF3, pF4, pF5, pF6, pF7, pF8, pF9, pF10, pF11, pF12, pF13, pF14, pF15, pF16, pF17, pF18, pF19, aI_mk, aL_mk, aA_mk, sI_mk, sL_mk, sA_mk, isO_mk, rl_some, rl_none, true_and, and_true, true_or, or_true, wr_1, e, hm, if_false, h0, oM, c139 D' v' r (show i < n by omega) hj, hcj]
      have e2 : (m.df (28 + i)).toInt64 * (m.df (28 + j)).toInt64 = mdF (tD m.df) i j := rfl
      have goal : Wp 142 b 61 [.ref 51, .int (nfF a.1), .long a.2.1, x_no, .long a.2.2, x_no, .int (nI i), .int (nI j), .long (mnF (tD m.df) (mD m.df) i j), x_no, v10, x_no] [.long (abL (mnF (tD m.df) (mD m.df) i j))] w Q ↔ Q (some (.int (nfF (foldN (msG n (lD m.df) (rD m.df) (tD m.df) (mD m.df)) k (i + 1) (if a.1 = -1 ∨ ¬ lg_cmp (abL (mnF (tD m.df) (mD m.df) i j) * a.2.2) (a.2.1 * mdF (tD m.df) i j) ≤ 0 then (nI i, abL (mnF (tD m.df) (mD m.df) i j), mdF (tD m.df) i j) else a)).1))) w := by
        have k1 := ih (i + 1) (nI i, abL (mnF (tD m.df) (mD m.df) i j), mdF (tD m.df) i j) (.int (nI j)) (.long (abL (mnF (tD m.df) (mD m.df) i j))) (.long (mdF (tD m.df) i j)) (by omega) (Or.inr ⟨i, by omega, rfl⟩)
        have k2 := ih (i + 1) a (.int (nI j)) (.long (abL (mnF (tD m.df) (mD m.df) i j))) (.long (mdF (tD m.df) i j)) (by omega) ha
        rw [nfF_n (by omega)] at k1
        simp only [q142_61, q142_63, q142_64, q142_67, q142_69, q142_71, q142_72, q142_73, q142_74, q142_75, q142_78, q142_80, q142_82, q142_83, q142_84, q142_85, q142_86, q142_88, q142_89, q142_91, q142_94, q142_96, q142_98, q142_99, q142_100, q142_102, q142_103, q142_104, q142_107, q142_109, q142_110, q142_112, q142_113, q142_115, q142_117, q142_120, gF0, gF1, gF2, gF3, gF4, gF5, gF6, gF7, gF8, gF9, gF10, gF11, gF12, gF13, gF14, gF15, gF16, gF17, gF18, gF19, pF0, pF1, pF2, pF3, pF4, pF5, pF6, pF7, pF8, pF9, pF10, pF11, pF12, pF13, pF14, pF15, pF16, pF17, pF18, pF19, aI_mk, aL_mk, aA_mk, sI_mk, sL_mk, sA_mk, isO_mk, rl_some, rl_none, true_and, and_true, true_or, or_true, wr_1, h0, oM, h1, ix28 (show i < 12 by omega), ix28 (show j < 12 by omega), e2, nI_1, nfF_m ha]
        by_cases a0 : a.1 = -1
        · rw [if_pos a0, if_pos (Or.inl a0)]
          exact k1
        · rw [if_neg a0]
          by_cases a1 : lg_cmp (abL (mnF (tD m.df) (mD m.df) i j) * a.2.2) (a.2.1 * mdF (tD m.df) i j) ≤ 0
          · rw [if_pos a1, if_neg (fun q => q.elim a0 (fun z => z a1))]
            exact k2
          · rw [if_neg a1, if_pos (Or.inr a1)]
            exact k1
      by_cases c : 0 ≤ lg_cmp (mnF (tD m.df) (mD m.df) i j) 0
      · rw [if_pos c]
        simp only [q142_59]
        rw [abL_ge c] at goal ⊢
        exact goal
      · rw [if_neg c]
        simp only [q142_53, q142_55, q142_56]
        rw [abL_lt c] at goal ⊢
        exact goal
theorem c142 (D : isM w m) (v : vM m.df n) (r : vR n (tD m.df) (mD m.df)) : Wp 142 b 0 [.ref 51, x_no, x_no, x_no, x_no, x_no, x_no, x_no, x_no, x_no, x_no, x_no] [] w Q ↔ Q (some (.int (nfF (mrF n (lD m.df) (rD m.df) (tD m.df) (mD m.df))))) w := by
  rw [q142_0, q142_2, q142_3, q142_4, q142_5, q142_6, q142_8, q142_9]
  exact l142 D v r n 0 (-1, 0, 1) _ _ _ (by omega) (Or.inl rfl)
end MR4
