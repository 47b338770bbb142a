/-- every reading is within its limits -/
def vR (n : Nat) (tf mf : Nat → Int32) : Prop := ∀ i, i < n → ∀ j, j < tkF tf i → -100000 ≤ (mf (6 * i + j)).toInt ∧ (mf (6 * i + j)).toInt ≤ 100000
theorem i32_add {a b : Int32} (ha : -1000000000 ≤ a.toInt ∧ a.toInt ≤ 1000000000) (hb : -1000000000 ≤ b.toInt ∧ b.toInt ≤ 1000000000) : (a + b).toInt = a.toInt + b.toInt ∧ (a + b).toInt64 = a.toInt64 + b.toInt64 := by
  have h : (a + b).toInt = a.toInt + b.toInt := by
    rw [Int32.toInt_add, Int.bmod_def]
    omega
  refine ⟨h, Int64.toInt_inj.mp ?_⟩
  rw [Int32.toInt_toInt64, Int64.toInt_add, Int32.toInt_toInt64, Int32.toInt_toInt64, h, Int.bmod_def]
  omega
theorem smL {mf : Nat → Int32} {i t : Nat} (h : ∀ j, j < t → -100000 ≤ (mf (6 * i + j)).toInt ∧ (mf (6 * i + j)).toInt ≤ 100000) (ht : t ≤ 6) : ∀ (k j : Nat) (a : Int32), j + k = t → -100000 * (j : Int) ≤ a.toInt → a.toInt ≤ 100000 * (j : Int) → foldN (fun a j => a + (mf (6 * i + j)).toInt64) k j a.toInt64 = (foldN (fun a j => a + mf (6 * i + j)) k j a).toInt64 ∧ -100000 * (t : Int) ≤ (foldN (fun a j => a + mf (6 * i + j)) k j a).toInt ∧ (foldN (fun a j => a + mf (6 * i + j)) k j a).toInt ≤ 100000 * (t : Int) := by
  intro k
  induction k with
  | zero =>
    intro j a hj h1 h2
    rw [show t = j by omega]
    exact ⟨rfl, h1, h2⟩
  | succ k ih =>
    intro j a hj h1 h2
    have hb := h j (by omega)
    obtain ⟨e1, e2⟩ := i32_add (a := a) (b := mf (6 * i + j)) (by omega) (by omega)
    have := ih (j + 1) (a + mf (6 * i + j)) (by omega) (by omega) (by omega)
    rw [e2] at this
    exact this
theorem sm_L {n : Nat} {tf mf : Nat → Int32} (v : vT n tf) (r : vR n tf mf) {i : Nat} (hi : i < n) : foldN (fun a j => a + (mf (6 * i + j)).toInt64) (tkF tf i) 0 0 = (smF mf (tkF tf i) i).toInt64 ∧ -600000 ≤ (smF mf (tkF tf i) i).toInt ∧ (smF mf (tkF tf i) i).toInt ≤ 600000 := by
  have h6 := (v.2 i hi).2
  obtain ⟨h1, h2, h3⟩ := smL (t := tkF tf i) (r i hi) h6 (tkF tf i) 0 0 (by omega) (by decide) (by decide)
  refine ⟨h1, ?_, ?_⟩
  · show _ ≤ (foldN (fun a j => a + mf (6 * i + j)) (tkF tf i) 0 0).toInt
    omega
  · show (foldN (fun a j => a + mf (6 * i + j)) (tkF tf i) 0 0).toInt ≤ _
    omega
theorem lgz {x : Int64} : 0 ≤ lg_cmp x 0 ↔ 0 ≤ x := by
  unfold lg_cmp
  by_cases h1 : x > 0
  · rw [if_pos h1]
    exact ⟨fun _ => Int64.le_of_lt h1, fun _ => by decide⟩
  · rw [if_neg h1]
    by_cases h2 : x = 0
    · rw [if_pos h2]
      exact ⟨fun _ => by rw [h2]; decide, fun _ => by decide⟩
    · rw [if_neg h2]
      refine ⟨fun h => absurd h (by decide), fun h => absurd h (fun h => h2 (Int64.le_antisymm (Int64.not_lt.mp h1) h))⟩
theorem abL_ge {x : Int64} (h : 0 ≤ lg_cmp x 0) : abL x = x := by
  rw [lgz] at h
  unfold abL
  by_cases c : 0 < x
  · rw [if_pos c]
  · have : x = 0 := Int64.le_antisymm (Int64.not_lt.mp c) h
    rw [if_neg c, this]
    rfl
theorem abL_lt {x : Int64} (h : ¬ 0 ≤ lg_cmp x 0) : abL x = -x := by
  rw [lgz] at h
  unfold abL
  rw [if_neg (fun c => h (Int64.le_of_lt c))]
section MR2
variable {w : xW} {b : Nat} {m : xM} {n : Nat} {Q : Option Value → xW → Prop}
theorem l123 (D : isM w m) (v : vM m.df n) : ∀ (k i : Nat) (a : Int32), i + k = n → (Wp 123 b 4 [.ref 51, .int a, .int (nI i)] [] w Q ↔ Q (some (.int (foldN (fun a j => a + tD m.df j) k i a))) w) := by
  obtain ⟨h0, h1, -⟩ := D
  obtain ⟨v0, hn, -⟩ := v
  intro k
  induction k with
  | zero =>
    intro i a hi
    have hc : nI n ≤ nI i := nI_le (by omega) (by omega)
    simp only [q123_4, q123_5, q123_6, q123_9, q123_10, q123_11, q123_32, q123_33, gF0, gF1, gF2, gF3, gF4, gF5, gF6, gF7, gF8, gF9, gF10, gF11, gF12, gF13, gF14, gF15, gF16, gF17, gF18, gF19, pF0, pF1, pF2, pF3, pF4, pF5, pF6, pF7, pF8, pF9, pF10, pF11, pF12, pF13, pF14, pF15, pF16, pF17, pF18, pF19, aI_mk, aL_mk, aA_mk, sI_mk, sL_mk, sA_mk, isO_mk, rl_some, rl_none, true_and, and_true, true_or, or_true, wr_1, h0, oM, h1, p112, Int32.reduceToNatClampNeg, v0, if_pos hc]
    rfl
  | succ k ih =>
    intro i a hi
    have hc : ¬ nI n ≤ nI i := by rw [nI_le' (by omega) (by omega)]; omega
    simp only [q123_4]
    simp only [q123_5, q123_6, q123_9, q123_10, q123_11, q123_14, q123_15, q123_16, q123_19, q123_21, q123_22, q123_23, q123_24, q123_25, q123_26, q123_29, gF0, gF1, gF2, gF3, gF4, gF5, gF6, gF7, gF8, gF9, gF10, gF11, gF12, gF13, gF14, gF15, gF16, gF17, gF18, gF19, pF0, pF1, pF2, pF3, pF4, pF5, pF6, pF7, pF8, pF9, pF10, pF11, pF12, pF13, pF14, pF15, pF16, pF17, pF18, pF19, aI_mk, aL_mk, aA_mk, sI_mk, sL_mk, sA_mk, isO_mk, rl_some, rl_none, true_and, and_true, true_or, or_true, wr_1, h0, oM, h1, p112, Int32.reduceToNatClampNeg, v0, if_neg hc, ix28 (show i < 12 by omega), nI_1]
    exact ih (i + 1) (a + m.df (28 + i)) (by omega)
theorem c123 (D : isM w m) (v : vM m.df n) : Wp 123 b 0 [.ref 51, x_no, x_no] [] w Q ↔ Q (some (.int (foldN (fun a j => a + tD m.df j) n 0 0))) w := by
  rw [q123_0, q123_1, q123_2, q123_3]
  exact l123 D v n 0 0 (by omega)
theorem l125 (D : isM w m) (v : vM m.df n) : ∀ (k i : Nat) (a : Int32), i + k = n → (Wp 125 b 4 [.ref 51, .int a, .int (nI i)] [] w Q ↔ Q (some (.int (foldN (fun a j => if swF n (lD m.df) (rD m.df) (tD m.df) j ≤ nI j then a else a + 1) k i a))) w) := by
  have D' := D
  have v' := v
  obtain ⟨h0, h1, -⟩ := D
  obtain ⟨v0, hn, -⟩ := v
  intro k
  induction k with
  | zero =>
    intro i a hi
    have hc : nI n ≤ nI i := nI_le (by omega) (by omega)
    simp only [q125_4, q125_5, q125_6, q125_9, q125_10, q125_11, q125_37, q125_38, gF0, gF1, gF2, gF3, gF4, gF5, gF6, gF7, gF8, gF9, gF10, gF11, gF12, gF13, gF14, gF15, gF16, gF17, gF18, gF19, pF0, pF1, pF2, pF3, pF4, pF5, pF6, pF7, pF8, pF9, pF10, pF11, pF12, pF13, pF14, pF15, pF16, pF17, pF18, pF19, aI_mk, aL_mk, aA_mk, sI_mk, sL_mk, sA_mk, isO_mk, rl_some, rl_none, true_and, and_true, true_or, or_true, wr_1, h0, oM, h1, p112, Int32.reduceToNatClampNeg, v0, if_pos hc]
    rfl
  | succ k ih =>
    intro i a hi
    have hc : ¬ nI n ≤ nI i := by rw [nI_le' (by omega) (by omega)]; omega
    simp only [q125_4]
    simp only [q125_5, q125_6, q125_9, q125_10, q125_11, q125_14, q125_15, q125_16, q125_17, q125_20, q125_21, q125_24, q125_25, q125_28, q125_29, q125_30, q125_31, q125_34, gF0, gF1, gF2, gF3, gF4, gF5, gF6, gF7, gF8, gF9, gF10, gF11, gF12, gF13, gF14, gF15, gF16, gF17, gF18, gF19, pF0, pF1, pF2, pF3, pF4, pF5, pF6, pF7, pF8, pF9, pF10, pF11, pF12, pF13, pF14, pF15, pF16, pF17, pF18, pF19, aI_mk, aL_mk, aA_mk, sI_mk, sL_mk, sA_mk, isO_mk, rl_some, rl_none, true_and, and_true, true_or, or_true, wr_1, h0, oM, h1, p112, Int32.reduceToNatClampNeg, v0, if_neg hc, c119 D' v' (show i < n by omega), nI_1]
    show _ ↔ Q (some (.int (foldN _ k (i + 1) (if swF n (lD m.df) (rD m.df) (tD m.df) i ≤ nI i then a else a + 1)))) w
    by_cases a1 : swF n (lD m.df) (rD m.df) (tD m.df) i ≤ nI i
    · rw [if_pos a1, if_pos a1, Int32.add_zero]
      exact ih (i + 1) a (by omega)
    · rw [if_neg a1, if_neg a1]
      exact ih (i + 1) (a + 1) (by omega)
theorem c125 (D : isM w m) (v : vM m.df n) : Wp 125 b 0 [.ref 51, x_no, x_no] [] w Q ↔ Q (some (.int (foldN (fun a j => if swF n (lD m.df) (rD m.df) (tD m.df) j ≤ nI j then a else a + 1) n 0 0))) w := by
  rw [q125_0, q125_1, q125_2, q125_3]
  exact l125 D v n 0 0 (by omega)
theorem l133 (D : isM w m) {i t : Nat} (hi : i < 12) (ht : m.df (28 + i) = nI t) (ht6 : t ≤ 6) : ∀ (k j : Nat) (a : Int64), j + k = t → (Wp 133 b 5 [.ref 51, .int (nI i), .long a, x_no, .int (nI j)] [] w Q ↔ Q (some (.long (foldN (fun a j => a + (mD m.df (6 * i + j)).toInt64) k j a))) w) := by
  obtain ⟨h0, h1, -⟩ := D
  intro k
  induction k with
  | zero =>
    intro j a hj
    have hc : nI t ≤ nI j := nI_le (by omega) (by omega)
    simp only [q133_5, q133_7, q133_8, q133_11, q133_13, q133_14, q133_15, q133_16, q133_44, q133_45, gF0, gF1, gF2, gF3, gF4, gF5, gF6, gF7, gF8, gF9, gF10, gF11, gF12, gF13, gF14, gF15, gF16, gF17, gF18, gF19, pF0, pF1, pF2, pF3, pF4, pF5, pF6, pF7, pF8, pF9, pF10, pF11, pF12, pF13, pF14, pF15, pF16, pF17, pF18, pF19, aI_mk, aL_mk, aA_mk, sI_mk, sL_mk, sA_mk, isO_mk, rl_some, rl_none, true_and, and_true, true_or, or_true, wr_1, h0, oM, h1, ix28 hi, ht, if_pos hc]
    rfl
  | succ k ih =>
    intro j a hj
    have hc : ¬ nI t ≤ nI j := by rw [nI_le' (by omega) (by omega)]; omega
    simp only [q133_5]
    simp only [q133_7, q133_8, q133_11, q133_13, q133_14, q133_15, q133_16, q133_19, q133_20, q133_21, q133_24, q133_26, q133_28, q133_29, q133_30, q133_31, q133_33, q133_34, q133_35, q133_36, q133_37, q133_38, q133_41, gF0, gF1, gF2, gF3, gF4, gF5, gF6, gF7, gF8, gF9, gF10, gF11, gF12, gF13, gF14, gF15, gF16, gF17, gF18, gF19, pF0, pF1, pF2, pF3, pF4, pF5, pF6, pF7, pF8, pF9, pF10, pF11, pF12, pF13, pF14, pF15, pF16, pF17, pF18, pF19, aI_mk, aL_mk, aA_mk, sI_mk, sL_mk, sA_mk, isO_mk, rl_some, rl_none, true_and, and_true, true_or, or_true, wr_1, h0, oM, h1, ix28 hi, ht, if_neg hc, ix40 hi (show j < 6 by omega), nI_1]
    exact ih (j + 1) _ (by omega)
theorem c133 (D : isM w m) (v : vM m.df n) (r : vR n (tD m.df) (mD m.df)) {i : Nat} (hi : i < n) : Wp 133 b 0 [.ref 51, .int (nI i), x_no, x_no, x_no] [] w Q ↔ Q (some (.long (smF (mD m.df) (tkF (tD m.df) i) i).toInt64)) w := by
  have hn := v.2.1
  obtain ⟨t1, t2⟩ := v.2.2 i hi
  simp only [q133_0, q133_1, q133_2, q133_3]
  rw [← (sm_L v.2 r hi).1]
  exact l133 D (by omega) t1 t2 _ 0 0 (by omega)
theorem c139 (D : isM w m) (v : vM m.df n) (r : vR n (tD m.df) (mD m.df)) {i j : Nat} (hi : i < n) (hj : j < n) : Wp 139 b 0 [.ref 51, .int (nI i), .int (nI j)] [] w Q ↔ Q (some (.long (mnF (tD m.df) (mD m.df) i j))) w := by
  have D' := D
  obtain ⟨h0, h1, -⟩ := D
  have hn := v.2.1
  simp only [q139_0, q139_1, q139_2, q139_5, q139_6, q139_9, q139_11, q139_12, q139_13, q139_14, q139_15, q139_16, q139_17, q139_18, q139_21, q139_22, q139_25, q139_27, q139_28, q139_29, q139_30, q139_31, q139_32, q139_33, gF0, gF1, gF2, gF3, gF4, gF5, gF6, gF7, gF8, gF9, gF10, gF11, gF12, gF13, gF14, gF15, gF16, gF17, gF18, gF19, pF0, pF1, pF2, pF3, pF4, pF5, pF6, pF7, pF8, pF9, pF10, pF11, pF12, pF13, pF14, pF15, pF16, pF17, pF18, pF19, aI_mk, aL_mk, aA_mk, sI_mk, sL_mk, sA_mk, isO_mk, rl_some, rl_none, true_and, and_true, true_or, or_true, wr_1, h0, oM, h1, c133 D' v r hi, c133 D' v r hj, ix28 (show i < 12 by omega), ix28 (show j < 12 by omega)]
  rfl
theorem l140 (D : isM w m) (v : vM m.df n) (r : vR n (tD m.df) (mD m.df)) : ∀ (k i : Nat) (a : Bool) (v3 v4 : Value), i + k = n → (Wp 140 b 4 [.ref 51, .int (bI (a = true)), .int (nI i), v3, v4, x_no] [] w Q ↔ Q (some (.int (bI ((a || anyN (psF (m.df 2) n (lD m.df) (rD m.df) (tD m.df) (mD m.df)) k i) = true)))) w) := by
  have D' := D
  have v' := v
  obtain ⟨h0, h1, -⟩ := D
  obtain ⟨v0, hn, -⟩ := v
  intro k
  induction k with
  | zero =>
    intro i a v3 v4 hi
    have hc : nI n ≤ nI i := nI_le (by omega) (by omega)
    simp only [q140_4, q140_5, q140_6, q140_9, q140_10, q140_11, q140_97, q140_98, gF0, gF1, gF2, gF3, gF4, gF5, gF6, gF7, gF8, gF9, gF10, gF11, gF12, gF13, gF14, gF15, gF16, gF17, gF18, gF19, pF0, pF1, pF2, pF3, pF4, pF5, pF6, pF7, pF8, pF9, pF10, pF11, pF12, pF13, pF14, pF15, pF16, pF17, pF18, pF19, aI_mk, aL_mk, aA_mk, sI_mk, sL_mk, sA_mk, isO_mk, rl_some, rl_none, true_and, and_true, true_or, or_true, wr_1, h0, oM, h1, p112, Int32.reduceToNatClampNeg, v0, if_pos hc, bI_01]
    rw [show (a || anyN (psF (m.df 2) n (lD m.df) (rD m.df) (tD m.df) (mD m.df)) 0 i) = a from Bool.or_false a]
  | succ k ih =>
    intro i a v3 v4 hi
    have hc : ¬ nI n ≤ nI i := by rw [nI_le' (by omega) (by omega)]; omega
    simp only [q140_4]
    simp only [q140_5, q140_6, q140_9, q140_10, q140_11, q140_14, q140_15, q140_16, q140_19, gF0, gF1, gF2, gF3, gF4, gF5, gF6, gF7, gF8, gF9, gF10, gF11, gF12, gF13, gF14, gF15, gF16, gF17, gF18, gF19, pF0, pF1, pF2, pF3, pF4, pF5, pF6, pF7, pF8, pF9, pF10, pF11, pF12, pF13, pF14, pF15, pF16, pF17, pF18, pF19, aI_mk, aL_mk, aA_mk, sI_mk, sL_mk, sA_mk, isO_mk, rl_some, rl_none, true_and, and_true, true_or, or_true, wr_1, h0, oM, h1, p112, Int32.reduceToNatClampNeg, v0, if_neg hc, c119 D' v' (show i < n by omega)]
    have e0 : psF (m.df 2) n (lD m.df) (rD m.df) (tD m.df) (mD m.df) i = (decide (¬ swF n (lD m.df) (rD m.df) (tD m.df) i = -1) && decide (¬ lg_cmp (abL (mnF (tD m.df) (mD m.df) i (swF n (lD m.df) (rD m.df) (tD m.df) i).toNatClampNeg)) ((m.df 2).toInt64 * mdF (tD m.df) i (swF n (lD m.df) (rD m.df) (tD m.df) i).toNatClampNeg) ≤ 0)) := rfl
    have e1 : (a || anyN (psF (m.df 2) n (lD m.df) (rD m.df) (tD m.df) (mD m.df)) (k + 1) i) = ((a || psF (m.df 2) n (lD m.df) (rD m.df) (tD m.df) (mD m.df) i) || anyN (psF (m.df 2) n (lD m.df) (rD m.df) (tD m.df) (mD m.df)) k (i + 1)) := (Bool.or_assoc _ _ _).symm
    rw [e1, e0]
    rcases swF_or n (lD m.df) (rD m.df) (tD m.df) i with e | ⟨j, hj, e, -, -⟩
    · simp only [q140_20, q140_21, q140_22, q140_25, q140_26, q140_27, q140_28, q140_31, q140_33, q140_34, q140_37, q140_39, q140_40, q140_41, q140_44, q140_46, q140_47, q140_50, q140_52, q140_53, q140_56, q140_57, q140_58, q140_59, q140_60, q140_63, q140_65, q140_66, q140_67, q140_68, q140_69, q140_70, q140_71, q140_74, q140_76, q140_77, q140_78, q140_79, q140_80, q140_81, q140_82, q140_85, q140_86, q140_89, q140_90, q140_91, q140_94, gF0, gF1, gF2, gF3, gF4, gF5, gF6, gF7, gF8, gF9, gF10, gF11, gF12, gF13, gF14, gF15, gF16, gF17, gF18, gF19, pF0, pF1, pF2, pF3, pF4, pF5, pF6, pF7, pF8, pF9, pF10, pF11, pF12, pF13, pF14, pF15, pF16, pF17, pF18, pF19, aI_mk, aL_mk, aA_mk, sI_mk, sL_mk, sA_mk, isO_mk, rl_some, rl_none, true_and, and_true, true_or, or_true, wr_1, e, if_true, nI_1]
      rw [ih (i + 1) a _ _ (by omega)]
      simp
    · have hm := nI_m1 (a := j) (by omega)
      have hcj : (nI j).toNatClampNeg = j := cl_nI (by omega)
      have z1 : ¬ (1 : Int32) = 0 := by decide
      have e2 : (m.df 2).toInt64 * (m.df (28 + i)).toInt64 * (m.df (28 + j)).toInt64 = (m.df 2).toInt64 * mdF (tD m.df) i j := Int64.mul_assoc _ _ _
      simp only [q140_20, q140_21, q140_22, q140_25, q140_26, q140_27, q140_28, q140_31, q140_33, q140_34, gF0, gF1, gF2, gF3, gF4, gF5, gF6, gF7, gF8, gF9, gF10, gF11, gF12, gF13, gF14, gF15, gF16, gF17, gF18, gF19, pF0, pF1, pF2, pF3, pF4, pF5, pF6, pF7, pF8, pF9, pF10, pF11, pF12, pF13, pF14, pF15, pF16, pF17, pF18, pF19, aI_mk, aL_mk, aA_mk, sI_mk, sL_mk, sA_mk, isO_mk, rl_some, rl_none, true_and, and_true, true_or, or_true, wr_1, e, hm, if_false, h0, oM, c139 D' v' r (show i < n by omega) hj, hcj]
      cases a with
      | true =>
        simp only [bI, if_true, z1, if_false, not_false_eq_true, not_true]
        simp only [q140_85, q140_86, q140_89, q140_90, q140_91, q140_94, gF0, gF1, gF2, gF3, gF4, gF5, gF6, gF7, gF8, gF9, gF10, gF11, gF12, gF13, gF14, gF15, gF16, gF17, gF18, gF19, pF0, pF1, pF2, pF3, pF4, pF5, pF6, pF7, pF8, pF9, pF10, pF11, pF12, pF13, pF14, pF15, pF16, pF17, pF18, pF19, aI_mk, aL_mk, aA_mk, sI_mk, sL_mk, sA_mk, isO_mk, rl_some, rl_none, true_and, and_true, true_or, or_true, wr_1, nI_1]
        have := ih (i + 1) true (.int (nI j)) (.long (mnF (tD m.df) (mD m.df) i j)) (by omega)
        simpa [bI] using this
      | false =>
        simp only [bI, if_true, Bool.false_eq_true, if_false, not_true]
        have hk : ∀ a : Bool, (Wp 140 b 4 [.ref 51, .int (bI (a = true)), .int (nI (i + 1)), .int (nI j), .long (mnF (tD m.df) (mD m.df) i j), x_no] [] w Q ↔ _) := fun a => ih (i + 1) a _ _ (by omega)
        by_cases c : 0 ≤ lg_cmp (mnF (tD m.df) (mD m.df) i j) 0
        · simp only [q140_37, q140_39, q140_40, q140_41, q140_44, q140_46, q140_47, q140_50, q140_52, q140_53, q140_56, q140_57, q140_58, q140_59, q140_60, q140_63, q140_65, q140_66, q140_67, q140_68, q140_69, q140_70, q140_71, q140_74, q140_76, q140_77, q140_78, q140_79, q140_80, q140_81, q140_82, q140_85, q140_86, q140_89, q140_90, q140_91, q140_94, gF0, gF1, gF2, gF3, gF4, gF5, gF6, gF7, gF8, gF9, gF10, gF11, gF12, gF13, gF14, gF15, gF16, gF17, gF18, gF19, pF0, pF1, pF2, pF3, pF4, pF5, pF6, pF7, pF8, pF9, pF10, pF11, pF12, pF13, pF14, pF15, pF16, pF17, pF18, pF19, aI_mk, aL_mk, aA_mk, sI_mk, sL_mk, sA_mk, isO_mk, rl_some, rl_none, true_and, and_true, true_or, or_true, wr_1, h0, oM, h1, p112, Int32.reduceToNatClampNeg, if_pos c, ix28 (show i < 12 by omega), ix28 (show j < 12 by omega), e2, nI_1, abL_ge c]
          by_cases d : lg_cmp (mnF (tD m.df) (mD m.df) i j) ((m.df 2).toInt64 * mdF (tD m.df) i j) ≤ 0
          · have := hk false
            simp only [d, if_true]
            simpa [bI] using this
          · have := hk true
            simp only [d, if_false]
            simpa [bI] using this
        · simp only [q140_37, q140_39, q140_40, q140_41, q140_44, q140_46, q140_47, q140_50, q140_52, q140_53, q140_56, q140_57, q140_58, q140_59, q140_60, q140_63, q140_65, q140_66, q140_67, q140_68, q140_69, q140_70, q140_71, q140_74, q140_76, q140_77, q140_78, q140_79, q140_80, q140_81, q140_82, q140_85, q140_86, q140_89, q140_90, q140_91, q140_94, gF0, gF1, gF2, gF3, gF4, gF5, gF6, gF7, gF8, gF9, gF10, gF11, gF12, gF13, gF14, gF15, gF16, gF17, gF18, gF19, pF0, pF1, pF2, pF3, pF4, pF5, pF6, pF7, pF8, pF9, pF10, pF11, pF12, pF13, pF14, pF15, pF16, pF17, pF18, pF19, aI_mk, aL_mk, aA_mk, sI_mk, sL_mk, sA_mk, isO_mk, rl_some, rl_none, true_and, and_true, true_or, or_true, wr_1, h0, oM, h1, p112, Int32.reduceToNatClampNeg, if_neg c, ix28 (show i < 12 by omega), ix28 (show j < 12 by omega), e2, nI_1, abL_lt c]
          by_cases d : lg_cmp (-mnF (tD m.df) (mD m.df) i j) ((m.df 2).toInt64 * mdF (tD m.df) i j) ≤ 0
          · have := hk false
            simp only [d, if_true]
            simpa [bI] using this
          · have := hk true
            simp only [d, if_false]
            simpa [bI] using this
theorem c140 (D : isM w m) (v : vM m.df n) (r : vR n (tD m.df) (mD m.df)) : Wp 140 b 0 [.ref 51, x_no, x_no, x_no, x_no, x_no] [] w Q ↔ Q (some (.int (bI (anyN (psF (m.df 2) n (lD m.df) (rD m.df) (tD m.df) (mD m.df)) n 0 = true)))) w := by
  rw [q140_0, q140_1, q140_2, q140_3]
  have := l140 (b := b) (Q := Q) D v r n 0 false x_no x_no (by omega)
  rw [Bool.false_or] at this
  exact this
end MR2
