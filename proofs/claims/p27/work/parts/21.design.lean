/-! Design: what is read off -/
section DR
variable {w : xW} {b o : Nat} {s p l : Int32} {n : Nat} {lf rf tf mf : Nat → Int32} {Q : Option Value → xW → Prop}
theorem c3 (D : isD w o s p l n lf rf tf mf) {r : Int32} : Wp 3 b 0 [.ref o, .int r] [] w Q ↔ Q (some (.int (bI (¬ r < 0 ∧ r < nI n)))) w := by
  obtain ⟨h0, h1, h2, h3, h4⟩ := D
  simp only [q3_0, q3_1, q3_4, q3_5, q3_6, q3_9, q3_12, q3_13, q3_16, q3_17, gF0, gF1, gF2, gF3, gF4, gF5, gF6, gF7, gF8, gF9, gF10, gF11, gF12, gF13, gF14, gF15, gF16, gF17, gF18, gF19, pF0, pF1, pF2, pF3, pF4, pF5, pF6, pF7, pF8, pF9, pF10, pF11, pF12, pF13, pF14, pF15, pF16, pF17, pF18, pF19, aI_mk, aL_mk, aA_mk, sI_mk, sL_mk, sA_mk, isO_mk, rl_some, rl_none, true_and, and_true, true_or, or_true, wr_1, h0, z_01, o_01]
  unfold bI
  by_cases c1 : r < 0
  · simp [c1]
  · by_cases c2 : nI n ≤ r
    · simp [c1, c2, Int32.not_lt.mpr c2]
    · simp [c1, c2, Int32.not_le.mp c2]
theorem c4 (D : isD w o s p l n lf rf tf mf) (hn : n ≤ 12) {r k : Int32} : Wp 4 b 0 [.ref o, .int r, .int k] [] w Q ↔ Q (some (.int (bI ((¬ r < 0 ∧ r < nI n) ∧ ¬ k < 0 ∧ k < tf r.toNatClampNeg)))) w := by
  have D' := D
  obtain ⟨h0, h1, h2, h3, h4⟩ := D
  simp only [q4_0, q4_1, q4_2, q4_5, q4_8, q4_9, q4_12, q4_13, q4_14, q4_17, q4_18, q4_19, q4_22, q4_23, q4_26, q4_27, gF0, gF1, gF2, gF3, gF4, gF5, gF6, gF7, gF8, gF9, gF10, gF11, gF12, gF13, gF14, gF15, gF16, gF17, gF18, gF19, pF0, pF1, pF2, pF3, pF4, pF5, pF6, pF7, pF8, pF9, pF10, pF11, pF12, pF13, pF14, pF15, pF16, pF17, pF18, pF19, aI_mk, aL_mk, aA_mk, sI_mk, sL_mk, sA_mk, isO_mk, rl_some, rl_none, true_and, and_true, true_or, or_true, wr_1, h0, h3, z_01, o_01, c3 D', bI_0]
  by_cases c0 : ¬ r < 0 ∧ r < nI n
  · obtain ⟨i, hi, rfl⟩ := row_of hn c0.1 c0.2
    have hx : x_pl (nI i) 12 := x_pl_nI (by omega) (by omega)
    have hcl : (nI i).toNatClampNeg = i := cl_nI (by omega)
    simp only [c0, hx, hcl, true_and, not_true, if_false, not_false_eq_true]
    by_cases c1 : k < 0
    · rw [bI_f (by simp [c1])]
      simp [c1]
    · by_cases c2 : tf i ≤ k
      · rw [bI_f (by simp [c1, Int32.not_lt.mpr c2])]
        simp [c1, c2]
      · rw [bI_t (by simp [c1, Int32.not_le.mp c2])]
        simp [c1, c2]
  · rw [bI_f (fun q => c0 q.1), if_pos c0]
theorem c5 (D : isD w o s p l n lf rf tf mf) {i j : Nat} (hi : i < 12) (hj : j < 6) : Wp 5 b 0 [.ref o, .int (nI i), .int (nI j)] [] w Q ↔ Q (some (.int (mf (6 * i + j)))) w := by
  obtain ⟨h0, h1, h2, h3, h4⟩ := D
  have e : nI i * 6 + nI j = nI (6 * i + j) := by
    rw [show (6 : Int32) = nI 6 from rfl, pk_mul, nI_add, Nat.mul_comm]
  have hx : x_pl (nI (6 * i + j)) 72 := x_pl_nI (by omega) (by omega)
  have hcl : (nI (6 * i + j)).toNatClampNeg = 6 * i + j := cl_nI (by omega)
  simp only [q5_0, q5_1, q5_4, q5_5, q5_7, q5_8, q5_9, q5_10, q5_11, gF0, gF1, gF2, gF3, gF4, gF5, gF6, gF7, gF8, gF9, gF10, gF11, gF12, gF13, gF14, gF15, gF16, gF17, gF18, gF19, pF0, pF1, pF2, pF3, pF4, pF5, pF6, pF7, pF8, pF9, pF10, pF11, pF12, pF13, pF14, pF15, pF16, pF17, pF18, pF19, aI_mk, aL_mk, aA_mk, sI_mk, sL_mk, sA_mk, isO_mk, rl_some, rl_none, true_and, and_true, true_or, or_true, wr_1, h0, h4, e, hx, hcl]
theorem l6 (D : isD w o s p l n lf rf tf mf) (hn : n ≤ 12) {x y : Int32} : ∀ k i : Nat, i + k = n → (Wp 6 b 2 [.ref o, .int x, .int y, .int (nI i)] [] w Q ↔ Q (some (.int (fndN (fun j => decide (lf j = x ∧ rf j = y)) k i))) w) := by
  obtain ⟨h0, h1, h2, h3, h4⟩ := D
  intro k
  induction k with
  | zero =>
    intro i hi
    have hc : nI n ≤ nI i := nI_le (by omega) (by omega)
    simp only [q6_2, q6_3, q6_4, q6_7, q6_38, q6_39, gF0, gF1, gF2, gF3, gF4, gF5, gF6, gF7, gF8, gF9, gF10, gF11, gF12, gF13, gF14, gF15, gF16, gF17, gF18, gF19, pF0, pF1, pF2, pF3, pF4, pF5, pF6, pF7, pF8, pF9, pF10, pF11, pF12, pF13, pF14, pF15, pF16, pF17, pF18, pF19, aI_mk, aL_mk, aA_mk, sI_mk, sL_mk, sA_mk, isO_mk, rl_some, rl_none, true_and, and_true, true_or, or_true, wr_1, h0, if_pos hc]
    rfl
  | succ k ih =>
    intro i hi
    have hc : ¬ nI n ≤ nI i := by rw [nI_le' (by omega) (by omega)]; omega
    have hx : x_pl (nI i) 12 := x_pl_nI (by omega) (by omega)
    have hcl : (nI i).toNatClampNeg = i := cl_nI (by omega)
    simp only [q6_2, q6_3]
    simp only [q6_4, q6_7, q6_10, q6_11, q6_14, q6_15, q6_16, q6_17, q6_20, q6_21, q6_24, q6_25, q6_26, q6_27, q6_30, q6_31, q6_32, q6_35, q6_38, q6_39, gF0, gF1, gF2, gF3, gF4, gF5, gF6, gF7, gF8, gF9, gF10, gF11, gF12, gF13, gF14, gF15, gF16, gF17, gF18, gF19, pF0, pF1, pF2, pF3, pF4, pF5, pF6, pF7, pF8, pF9, pF10, pF11, pF12, pF13, pF14, pF15, pF16, pF17, pF18, pF19, aI_mk, aL_mk, aA_mk, sI_mk, sL_mk, sA_mk, isO_mk, rl_some, rl_none, true_and, and_true, true_or, or_true, wr_1, h0, h1, h2, if_neg hc, hx, hcl, nI_1]
    rw [ih (i + 1) (by omega)]
    show _ ↔ Q (some (.int (if decide (lf i = x ∧ rf i = y) = true then nI i else fndN _ k (i + 1)))) w
    by_cases a1 : lf i = x
    · by_cases a2 : rf i = y
      · simp [a1, a2]
      · simp [a1, a2]
    · simp [a1]
theorem c6 (D : isD w o s p l n lf rf tf mf) (hn : n ≤ 12) {x y : Int32} : Wp 6 b 0 [.ref o, .int x, .int y, x_no] [] w Q ↔ Q (some (.int (fndN (fun j => decide (lf j = x ∧ rf j = y)) n 0))) w := by
  rw [q6_0, q6_1]
  exact l6 D hn n 0 (by omega)
theorem c12 (D : isD w o s p l n lf rf tf mf) : Wp 12 b 0 [.ref o] [] w Q ↔ Q (some (.int (4 + p))) w := by
  obtain ⟨h0, h1, h2, h3, h4⟩ := D
  simp only [q12_0, q12_1, q12_2, q12_5, q12_6, gF0, gF1, gF2, gF3, gF4, gF5, gF6, gF7, gF8, gF9, gF10, gF11, gF12, gF13, gF14, gF15, gF16, gF17, gF18, gF19, pF0, pF1, pF2, pF3, pF4, pF5, pF6, pF7, pF8, pF9, pF10, pF11, pF12, pF13, pF14, pF15, pF16, pF17, pF18, pF19, aI_mk, aL_mk, aA_mk, sI_mk, sL_mk, sA_mk, isO_mk, rl_some, rl_none, true_and, and_true, true_or, or_true, wr_1, h0]
theorem l13 (D : isD w o s p l n lf rf tf mf) (hn : n ≤ 12) : ∀ (k i : Nat) (a : Int32), i + k = n → (Wp 13 b 4 [.ref o, .int a, .int (nI i)] [] w Q ↔ Q (some (.int (foldN (fun a j => a + tf j) k i a))) w) := by
  obtain ⟨h0, h1, h2, h3, h4⟩ := D
  intro k
  induction k with
  | zero =>
    intro i a hi
    have hc : nI n ≤ nI i := nI_le (by omega) (by omega)
    simp only [q13_4, q13_5, q13_6, q13_9, q13_27, q13_28, gF0, gF1, gF2, gF3, gF4, gF5, gF6, gF7, gF8, gF9, gF10, gF11, gF12, gF13, gF14, gF15, gF16, gF17, gF18, gF19, pF0, pF1, pF2, pF3, pF4, pF5, pF6, pF7, pF8, pF9, pF10, pF11, pF12, pF13, pF14, pF15, pF16, pF17, pF18, pF19, aI_mk, aL_mk, aA_mk, sI_mk, sL_mk, sA_mk, isO_mk, rl_some, rl_none, true_and, and_true, true_or, or_true, wr_1, h0, if_pos hc]
    rfl
  | succ k ih =>
    intro i a hi
    have hc : ¬ nI n ≤ nI i := by rw [nI_le' (by omega) (by omega)]; omega
    have hx : x_pl (nI i) 12 := x_pl_nI (by omega) (by omega)
    have hcl : (nI i).toNatClampNeg = i := cl_nI (by omega)
    simp only [q13_4]
    simp only [q13_5, q13_6, q13_9, q13_12, q13_13, q13_14, q13_17, q13_18, q13_19, q13_20, q13_21, q13_24, q13_27, q13_28, gF0, gF1, gF2, gF3, gF4, gF5, gF6, gF7, gF8, gF9, gF10, gF11, gF12, gF13, gF14, gF15, gF16, gF17, gF18, gF19, pF0, pF1, pF2, pF3, pF4, pF5, pF6, pF7, pF8, pF9, pF10, pF11, pF12, pF13, pF14, pF15, pF16, pF17, pF18, pF19, aI_mk, aL_mk, aA_mk, sI_mk, sL_mk, sA_mk, isO_mk, rl_some, rl_none, true_and, and_true, true_or, or_true, wr_1, h0, h3, if_neg hc, hx, hcl, nI_1]
    exact ih (i + 1) (a + tf i) (by omega)
theorem c13 (D : isD w o s p l n lf rf tf mf) (hn : n ≤ 12) : Wp 13 b 0 [.ref o, x_no, x_no] [] w Q ↔ Q (some (.int (foldN (fun a j => a + tf j) n 0 0))) w := by
  rw [q13_0, q13_1, q13_2, q13_3]
  exact l13 D hn n 0 0 (by omega)
theorem l14 (D : isD w o s p l n lf rf tf mf) {i t : Nat} (hi : i < 12) (ht : tf i = nI t) (ht6 : t ≤ 6) : ∀ (k j : Nat) (a : Int32), j + k = t → (Wp 14 b 4 [.ref o, .int (nI i), .int a, .int (nI j)] [] w Q ↔ Q (some (.int (foldN (fun a j => a + mf (6 * i + j)) k j a))) w) := by
  have D' := D
  obtain ⟨h0, h1, h2, h3, h4⟩ := D
  have hx : x_pl (nI i) 12 := x_pl_nI (by omega) (by omega)
  have hcl : (nI i).toNatClampNeg = i := cl_nI (by omega)
  intro k
  induction k with
  | zero =>
    intro j a hj
    have hc : nI t ≤ nI j := nI_le (by omega) (by omega)
    simp only [q14_4, q14_5, q14_6, q14_9, q14_10, q14_11, q14_29, q14_30, gF0, gF1, gF2, gF3, gF4, gF5, gF6, gF7, gF8, gF9, gF10, gF11, gF12, gF13, gF14, gF15, gF16, gF17, gF18, gF19, pF0, pF1, pF2, pF3, pF4, pF5, pF6, pF7, pF8, pF9, pF10, pF11, pF12, pF13, pF14, pF15, pF16, pF17, pF18, pF19, aI_mk, aL_mk, aA_mk, sI_mk, sL_mk, sA_mk, isO_mk, rl_some, rl_none, true_and, and_true, true_or, or_true, wr_1, h0, h3, hx, hcl, ht, if_pos hc]
    rfl
  | succ k ih =>
    intro j a hj
    have hc : ¬ nI t ≤ nI j := by rw [nI_le' (by omega) (by omega)]; omega
    simp only [q14_4]
    simp only [q14_5, q14_6, q14_9, q14_10, q14_11, q14_14, q14_15, q14_16, q14_17, q14_18, q14_21, q14_22, q14_23, q14_26, q14_29, q14_30, gF0, gF1, gF2, gF3, gF4, gF5, gF6, gF7, gF8, gF9, gF10, gF11, gF12, gF13, gF14, gF15, gF16, gF17, gF18, gF19, pF0, pF1, pF2, pF3, pF4, pF5, pF6, pF7, pF8, pF9, pF10, pF11, pF12, pF13, pF14, pF15, pF16, pF17, pF18, pF19, aI_mk, aL_mk, aA_mk, sI_mk, sL_mk, sA_mk, isO_mk, rl_some, rl_none, true_and, and_true, true_or, or_true, wr_1, h0, h3, ht, if_neg hc, hx, hcl, nI_1, c5 D' hi (show j < 6 by omega)]
    exact ih (j + 1) (a + mf (6 * i + j)) (by omega)
/-- the sum of a row's readings -/
def smF (mf : Nat → Int32) (t i : Nat) : Int32 := foldN (fun a j => a + mf (6 * i + j)) t 0 0
theorem c14 (D : isD w o s p l n lf rf tf mf) {i t : Nat} (hi : i < 12) (ht : tf i = nI t) (ht6 : t ≤ 6) : Wp 14 b 0 [.ref o, .int (nI i), x_no, x_no] [] w Q ↔ Q (some (.int (smF mf t i))) w := by
  rw [q14_0, q14_1, q14_2, q14_3]
  exact l14 D hi ht ht6 t 0 0 (by omega)
/-- the sign of a mass in a row -/
def sgF (lf rf : Nat → Int32) (i : Nat) (m : Int32) : Int32 := (lf i >>> (m &&& 31) &&& 1) - (rf i >>> (m &&& 31) &&& 1)
theorem c15 (D : isD w o s p l n lf rf tf mf) {i : Nat} {m : Int32} (hi : i < 12) : Wp 15 b 0 [.ref o, .int (nI i), .int m] [] w Q ↔ Q (some (.int (sgF lf rf i m))) w := by
  obtain ⟨h0, h1, h2, h3, h4⟩ := D
  have hx : x_pl (nI i) 12 := x_pl_nI (by omega) (by omega)
  have hcl : (nI i).toNatClampNeg = i := cl_nI (by omega)
  simp only [q15_0, q15_1, q15_4, q15_5, q15_6, q15_7, q15_8, q15_9, q15_10, q15_11, q15_14, q15_15, q15_16, q15_17, q15_18, q15_19, q15_20, q15_21, gF0, gF1, gF2, gF3, gF4, gF5, gF6, gF7, gF8, gF9, gF10, gF11, gF12, gF13, gF14, gF15, gF16, gF17, gF18, gF19, pF0, pF1, pF2, pF3, pF4, pF5, pF6, pF7, pF8, pF9, pF10, pF11, pF12, pF13, pF14, pF15, pF16, pF17, pF18, pF19, aI_mk, aL_mk, aA_mk, sI_mk, sL_mk, sA_mk, isO_mk, rl_some, rl_none, true_and, and_true, true_or, or_true, wr_1, h0, h1, h2, hx, hcl]
  rfl
/-- the factor of an unknown number in a row -/
def fcF (lf rf : Nat → Int32) (i : Nat) (u : Int32) : Int32 := if u = 4 then 1 else sgF lf rf i (u + 1)
theorem c16 (D : isD w o s p l n lf rf tf mf) {i : Nat} {u : Int32} (hi : i < 12) : Wp 16 b 0 [.ref o, .int (nI i), .int u] [] w Q ↔ Q (some (.int (fcF lf rf i u))) w := by
  have D' := D
  obtain ⟨h0, h1, h2, h3, h4⟩ := D
  simp only [q16_0, q16_1, q16_2, q16_5, q16_6, q16_9, q16_10, q16_11, q16_12, q16_13, q16_14, q16_17, gF0, gF1, gF2, gF3, gF4, gF5, gF6, gF7, gF8, gF9, gF10, gF11, gF12, gF13, gF14, gF15, gF16, gF17, gF18, gF19, pF0, pF1, pF2, pF3, pF4, pF5, pF6, pF7, pF8, pF9, pF10, pF11, pF12, pF13, pF14, pF15, pF16, pF17, pF18, pF19, aI_mk, aL_mk, aA_mk, sI_mk, sL_mk, sA_mk, isO_mk, rl_some, rl_none, true_and, and_true, true_or, or_true, wr_1, h0, c15 D' hi]
  unfold fcF
  by_cases c : u = 4
  · simp [c]
  · simp [c]
/-- the row swapped with a row -/
def swF (n : Nat) (lf rf tf : Nat → Int32) (i : Nat) : Int32 := let z := fndN (fun j => decide (lf j = rf i ∧ rf j = lf i)) n 0; if z = -1 then -1 else if tf i ≤ 0 then -1 else if tf z.toNatClampNeg ≤ 0 then -1 else z
theorem c20 (D : isD w o s p l n lf rf tf mf) (hn : n ≤ 12) {i : Nat} (hi : i < 12) : Wp 20 b 0 [.ref o, .int (nI i), x_no] [] w Q ↔ Q (some (.int (swF n lf rf tf i))) w := by
  have D' := D
  obtain ⟨h0, h1, h2, h3, h4⟩ := D
  have hx : x_pl (nI i) 12 := x_pl_nI (by omega) (by omega)
  have hcl : (nI i).toNatClampNeg = i := cl_nI (by omega)
  simp only [q20_0, q20_1, q20_2, q20_5, q20_6, q20_7, q20_8, q20_11, q20_12, q20_13, q20_16, q20_17, q20_18, q20_19, q20_22, q20_23, q20_26, q20_27, q20_28, q20_31, q20_32, q20_35, q20_36, q20_37, q20_40, q20_41, q20_44, q20_45, gF0, gF1, gF2, gF3, gF4, gF5, gF6, gF7, gF8, gF9, gF10, gF11, gF12, gF13, gF14, gF15, gF16, gF17, gF18, gF19, pF0, pF1, pF2, pF3, pF4, pF5, pF6, pF7, pF8, pF9, pF10, pF11, pF12, pF13, pF14, pF15, pF16, pF17, pF18, pF19, aI_mk, aL_mk, aA_mk, sI_mk, sL_mk, sA_mk, isO_mk, rl_some, rl_none, true_and, and_true, true_or, or_true, wr_1, h0, h1, h2, h3, hx, hcl, c6 D' hn]
  unfold swF
  have hz := fndN_or (P := fun j => decide (lf j = rf i ∧ rf j = lf i)) n 0
  generalize fndN (fun j => decide (lf j = rf i ∧ rf j = lf i)) n 0 = z at hz ⊢
  rcases hz with e | ⟨j, -, hj, -, e⟩
  · simp [e]
  · have hx2 : x_pl (nI j) 12 := x_pl_nI (by omega) (by omega)
    have hcl2 : (nI j).toNatClampNeg = j := cl_nI (by omega)
    have hm := nI_m1 (a := j) (by omega)
    simp only [e, hm, hx2, hcl2, if_false, true_and]
    by_cases a1 : tf i ≤ 0
    · simp [a1]
    · by_cases a2 : tf j ≤ 0
      · simp [a1, a2]
      · simp [a1, a2]
theorem swF_or (n : Nat) (lf rf tf : Nat → Int32) (i : Nat) : swF n lf rf tf i = -1 ∨ ∃ j, j < n ∧ swF n lf rf tf i = nI j ∧ ¬ tf i ≤ 0 ∧ ¬ tf (nI j).toNatClampNeg ≤ 0 := by
  unfold swF
  have hz := fndN_or (P := fun j => decide (lf j = rf i ∧ rf j = lf i)) n 0
  generalize fndN (fun j => decide (lf j = rf i ∧ rf j = lf i)) n 0 = z at hz ⊢
  rcases hz with e | ⟨j, -, hj, -, e⟩
  · left
    simp [e]
  · simp only [e]
    by_cases a0 : nI j = -1
    · left
      simp [a0]
    · by_cases a1 : tf i ≤ 0
      · left
        simp [a0, a1]
      · by_cases a2 : tf (nI j).toNatClampNeg ≤ 0
        · left
          simp [a0, a1, a2]
        · right
          exact ⟨j, by omega, by simp [a0, a1, a2], a1, a2⟩
end DR
