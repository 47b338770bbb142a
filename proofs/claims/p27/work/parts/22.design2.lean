section DR2
variable {w : xW} {b o : Nat} {s p l : Int32} {n : Nat} {lf rf tf mf : Nat → Int32} {Q : Option Value → xW → Prop}
/-- which masses are reached by one link more -/
def olF (n : Nat) (lf rf tf : Nat → Int32) (x : Int32) : Int32 := foldN (fun a j => if tf j ≤ 0 then a else if (lf j ||| rf j) &&& x = 0 then a else a ||| (lf j ||| rf j)) n 0 x
theorem l19 (D : isD w o s p l n lf rf tf mf) (hn : n ≤ 12) {x : Int32} : ∀ (k i : Nat) (a : Int32) (v : Value), i + k = n → (Wp 19 b 4 [.ref o, .int x, .int a, .int (nI i), v] [] w Q ↔ Q (some (.int (foldN (fun a j => if tf j ≤ 0 then a else if (lf j ||| rf j) &&& x = 0 then a else a ||| (lf j ||| rf j)) k i a))) w) := by
  obtain ⟨h0, h1, h2, h3, h4⟩ := D
  intro k
  induction k with
  | zero =>
    intro i a v hi
    have hc : nI n ≤ nI i := nI_le (by omega) (by omega)
    simp only [q19_4, q19_5, q19_6, q19_9, q19_54, q19_55, gF0, gF1, gF2, gF3, gF4, gF5, gF6, gF7, gF8, gF9, gF10, gF11, gF12, gF13, gF14, gF15, gF16, gF17, gF18, gF19, pF0, pF1, pF2, pF3, pF4, pF5, pF6, pF7, pF8, pF9, pF10, pF11, pF12, pF13, pF14, pF15, pF16, pF17, pF18, pF19, aI_mk, aL_mk, aA_mk, sI_mk, sL_mk, sA_mk, isO_mk, rl_some, rl_none, true_and, and_true, true_or, or_true, wr_1, h0, if_pos hc]
    rfl
  | succ k ih =>
    intro i a v hi
    have hc : ¬ nI n ≤ nI i := by rw [nI_le' (by omega) (by omega)]; omega
    have hx : x_pl (nI i) 12 := x_pl_nI (by omega) (by omega)
    have hcl : (nI i).toNatClampNeg = i := cl_nI (by omega)
    simp only [q19_4]
    simp only [q19_5, q19_6, q19_9, q19_12, q19_13, q19_16, q19_17, q19_18, q19_19, q19_22, q19_23, q19_24, q19_25, q19_27, q19_28, q19_31, q19_32, q19_33, q19_36, q19_38, q19_39, q19_40, q19_43, q19_44, q19_46, q19_47, q19_48, q19_51, gF0, gF1, gF2, gF3, gF4, gF5, gF6, gF7, gF8, gF9, gF10, gF11, gF12, gF13, gF14, gF15, gF16, gF17, gF18, gF19, pF0, pF1, pF2, pF3, pF4, pF5, pF6, pF7, pF8, pF9, pF10, pF11, pF12, pF13, pF14, pF15, pF16, pF17, pF18, pF19, aI_mk, aL_mk, aA_mk, sI_mk, sL_mk, sA_mk, isO_mk, rl_some, rl_none, true_and, and_true, true_or, or_true, wr_1, h0, h1, h2, h3, if_neg hc, hx, hcl, nI_1]
    rw [ih (i + 1) a _ (by omega), ih (i + 1) (a ||| (lf i ||| rf i)) _ (by omega)]
    show _ ↔ Q (some (.int (foldN _ k (i + 1) (if tf i ≤ 0 then a else if (lf i ||| rf i) &&& x = 0 then a else a ||| (lf i ||| rf i))))) w
    by_cases a1 : tf i ≤ 0
    · simp [a1]
    · by_cases a2 : (lf i ||| rf i) &&& x = 0
      · simp [a1, a2]
      · simp [a1, a2]
theorem c19 (D : isD w o s p l n lf rf tf mf) (hn : n ≤ 12) {x : Int32} : Wp 19 b 0 [.ref o, .int x, x_no, x_no, x_no] [] w Q ↔ Q (some (.int (olF n lf rf tf x))) w := by
  rw [q19_0, q19_1, q19_2, q19_3]
  exact l19 D hn n 0 x _ (by omega)
/-- links to the standard: k tries, from the k-th on -/
def lkF (n : Nat) (lf rf tf : Nat → Int32) (m : Int32) : Nat → Nat → Int32 → Int32
  | 0, _, _ => -1
  | k + 1, i, x => if x >>> (m &&& 31) &&& 1 = 1 then nI i else lkF n lf rf tf m k (i + 1) (olF n lf rf tf x)
/-- the bits of an int, counted as Integer.bitCount does -/
def bcF (x : Int32) : Int32 :=
  let a := x - ((x.toUInt32 >>> ((1 : Int32).toUInt32 &&& Int32.toUInt32 31)).toInt32 &&& 1431655765)
  let c := (a &&& 858993459) + ((a.toUInt32 >>> ((2 : Int32).toUInt32 &&& Int32.toUInt32 31)).toInt32 &&& 858993459)
  let d := (c + (c.toUInt32 >>> ((4 : Int32).toUInt32 &&& Int32.toUInt32 31)).toInt32) &&& 252645135
  let e := d + (d.toUInt32 >>> ((8 : Int32).toUInt32 &&& Int32.toUInt32 31)).toInt32
  let f := e + (e.toUInt32 >>> ((16 : Int32).toUInt32 &&& Int32.toUInt32 31)).toInt32
  f &&& 63
theorem c154 {x : Int32} : Wp 154 b 0 [.int x] [] w Q ↔ Q (some (.int (bcF x))) w := by
  simp only [q154_0, q154_1, q154_2, q154_3, q154_4, q154_7, q154_8, q154_9, q154_10, q154_11, q154_14, q154_15, q154_16, q154_17, q154_18, q154_21, q154_22, q154_23, q154_24, q154_25, q154_26, q154_27, q154_28, q154_29, q154_32, q154_33, q154_34, q154_35, q154_36, q154_38, q154_39, q154_40, q154_41, q154_42, q154_43, q154_45, q154_46, q154_47, q154_48, q154_49, q154_51, q154_52, gF0, gF1, gF2, gF3, gF4, gF5, gF6, gF7, gF8, gF9, gF10, gF11, gF12, gF13, gF14, gF15, gF16, gF17, gF18, gF19, pF0, pF1, pF2, pF3, pF4, pF5, pF6, pF7, pF8, pF9, pF10, pF11, pF12, pF13, pF14, pF15, pF16, pF17, pF18, pF19, aI_mk, aL_mk, aA_mk, sI_mk, sL_mk, sA_mk, isO_mk, rl_some, rl_none, true_and, and_true, true_or, or_true, wr_1]
  rfl
theorem c18 (D : isD w o s p l n lf rf tf mf) (hn : n ≤ 12) : Wp 18 b 0 [.ref o, x_no, x_no] [] w Q ↔ Q (some (.int (bcF (olF n lf rf tf (olF n lf rf tf (olF n lf rf tf (olF n lf rf tf 1))))))) w := by
  have D' := D
  obtain ⟨h0, h1, h2, h3, h4⟩ := D
  have e1 : (1 : Int32) + 1 = 2 := by decide
  have e2 : (2 : Int32) + 1 = 3 := by decide
  have e3 : (3 : Int32) + 1 = 4 := by decide
  have e4 : (4 : Int32) + 1 = 5 := by decide
  have g1 : ¬ (5 : Int32) ≤ 1 := by decide
  have g2 : ¬ (5 : Int32) ≤ 2 := by decide
  have g3 : ¬ (5 : Int32) ≤ 3 := by decide
  have g4 : ¬ (5 : Int32) ≤ 4 := by decide
  have g5 : (5 : Int32) ≤ 5 := by decide
  rw [q18_0, q18_1, q18_2, q18_3]
  simp only [q18_4]
  simp only [q18_5, q18_6, q18_9, q18_10, q18_11, q18_14, q18_15, q18_18, gF0, gF1, gF2, gF3, gF4, gF5, gF6, gF7, gF8, gF9, gF10, gF11, gF12, gF13, gF14, gF15, gF16, gF17, gF18, gF19, pF0, pF1, pF2, pF3, pF4, pF5, pF6, pF7, pF8, pF9, pF10, pF11, pF12, pF13, pF14, pF15, pF16, pF17, pF18, pF19, aI_mk, aL_mk, aA_mk, sI_mk, sL_mk, sA_mk, isO_mk, rl_some, rl_none, true_and, and_true, true_or, or_true, wr_1, h0, c19 D' hn, if_neg g1, e1]
  simp only [q18_4]
  simp only [q18_5, q18_6, q18_9, q18_10, q18_11, q18_14, q18_15, q18_18, gF0, gF1, gF2, gF3, gF4, gF5, gF6, gF7, gF8, gF9, gF10, gF11, gF12, gF13, gF14, gF15, gF16, gF17, gF18, gF19, pF0, pF1, pF2, pF3, pF4, pF5, pF6, pF7, pF8, pF9, pF10, pF11, pF12, pF13, pF14, pF15, pF16, pF17, pF18, pF19, aI_mk, aL_mk, aA_mk, sI_mk, sL_mk, sA_mk, isO_mk, rl_some, rl_none, true_and, and_true, true_or, or_true, wr_1, h0, c19 D' hn, if_neg g2, e2]
  simp only [q18_4]
  simp only [q18_5, q18_6, q18_9, q18_10, q18_11, q18_14, q18_15, q18_18, gF0, gF1, gF2, gF3, gF4, gF5, gF6, gF7, gF8, gF9, gF10, gF11, gF12, gF13, gF14, gF15, gF16, gF17, gF18, gF19, pF0, pF1, pF2, pF3, pF4, pF5, pF6, pF7, pF8, pF9, pF10, pF11, pF12, pF13, pF14, pF15, pF16, pF17, pF18, pF19, aI_mk, aL_mk, aA_mk, sI_mk, sL_mk, sA_mk, isO_mk, rl_some, rl_none, true_and, and_true, true_or, or_true, wr_1, h0, c19 D' hn, if_neg g3, e3]
  simp only [q18_4]
  simp only [q18_5, q18_6, q18_9, q18_10, q18_11, q18_14, q18_15, q18_18, gF0, gF1, gF2, gF3, gF4, gF5, gF6, gF7, gF8, gF9, gF10, gF11, gF12, gF13, gF14, gF15, gF16, gF17, gF18, gF19, pF0, pF1, pF2, pF3, pF4, pF5, pF6, pF7, pF8, pF9, pF10, pF11, pF12, pF13, pF14, pF15, pF16, pF17, pF18, pF19, aI_mk, aL_mk, aA_mk, sI_mk, sL_mk, sA_mk, isO_mk, rl_some, rl_none, true_and, and_true, true_or, or_true, wr_1, h0, c19 D' hn, if_neg g4, e4]
  simp only [q18_4]
  simp only [q18_5, q18_6, q18_21, q18_22, q18_25, gF0, gF1, gF2, gF3, gF4, gF5, gF6, gF7, gF8, gF9, gF10, gF11, gF12, gF13, gF14, gF15, gF16, gF17, gF18, gF19, pF0, pF1, pF2, pF3, pF4, pF5, pF6, pF7, pF8, pF9, pF10, pF11, pF12, pF13, pF14, pF15, pF16, pF17, pF18, pF19, aI_mk, aL_mk, aA_mk, sI_mk, sL_mk, sA_mk, isO_mk, rl_some, rl_none, true_and, and_true, true_or, or_true, wr_1, if_pos g5, c154]
theorem l21 (D : isD w o s p l n lf rf tf mf) (hn : n ≤ 12) : ∀ (k i : Nat) (a : Int32), i + k = n → (Wp 21 b 4 [.ref o, .int a, .int (nI i)] [] w Q ↔ Q (some (.int (foldN (fun a j => if swF n lf rf tf j ≤ nI j then a else a + 1) k i a))) w) := by
  have D' := D
  obtain ⟨h0, h1, h2, h3, h4⟩ := D
  intro k
  induction k with
  | zero =>
    intro i a hi
    have hc : nI n ≤ nI i := nI_le (by omega) (by omega)
    simp only [q21_4, q21_5, q21_6, q21_9, q21_30, q21_31, gF0, gF1, gF2, gF3, gF4, gF5, gF6, gF7, gF8, gF9, gF10, gF11, gF12, gF13, gF14, gF15, gF16, gF17, gF18, gF19, pF0, pF1, pF2, pF3, pF4, pF5, pF6, pF7, pF8, pF9, pF10, pF11, pF12, pF13, pF14, pF15, pF16, pF17, pF18, pF19, aI_mk, aL_mk, aA_mk, sI_mk, sL_mk, sA_mk, isO_mk, rl_some, rl_none, true_and, and_true, true_or, or_true, wr_1, h0, if_pos hc]
    rfl
  | succ k ih =>
    intro i a hi
    have hc : ¬ nI n ≤ nI i := by rw [nI_le' (by omega) (by omega)]; omega
    simp only [q21_4]
    simp only [q21_5, q21_6, q21_9, q21_12, q21_13, q21_14, q21_17, q21_18, q21_21, q21_24, q21_27, gF0, gF1, gF2, gF3, gF4, gF5, gF6, gF7, gF8, gF9, gF10, gF11, gF12, gF13, gF14, gF15, gF16, gF17, gF18, gF19, pF0, pF1, pF2, pF3, pF4, pF5, pF6, pF7, pF8, pF9, pF10, pF11, pF12, pF13, pF14, pF15, pF16, pF17, pF18, pF19, aI_mk, aL_mk, aA_mk, sI_mk, sL_mk, sA_mk, isO_mk, rl_some, rl_none, true_and, and_true, true_or, or_true, wr_1, h0, c20 D' hn (show i < 12 by omega), if_neg hc, nI_1]
    rw [ih (i + 1) a (by omega), ih (i + 1) (a + 1) (by omega)]
    show _ ↔ Q (some (.int (foldN _ k (i + 1) (if swF n lf rf tf i ≤ nI i then a else a + 1)))) w
    by_cases a1 : swF n lf rf tf i ≤ nI i
    · simp [a1]
    · simp [a1]
theorem c21 (D : isD w o s p l n lf rf tf mf) (hn : n ≤ 12) : Wp 21 b 0 [.ref o, x_no, x_no] [] w Q ↔ Q (some (.int (foldN (fun a j => if swF n lf rf tf j ≤ nI j then a else a + 1) n 0 0))) w := by
  rw [q21_0, q21_1, q21_2, q21_3]
  exact l21 D hn n 0 0 (by omega)
/-- the sum of two rows' means, over mdF -/
def mnF (tf mf : Nat → Int32) (i j : Nat) : Int64 := (smF mf (tkF tf i) i).toInt64 * (tf j).toInt64 + (smF mf (tkF tf j) j).toInt64 * (tf i).toInt64
def mdF (tf : Nat → Int32) (i j : Nat) : Int64 := (tf i).toInt64 * (tf j).toInt64
theorem c22 (D : isD w o s p l n lf rf tf mf) (hT : vT n tf) {i j : Nat} (hi : i < n) (hj : j < n) : Wp 22 b 0 [.ref o, .int (nI i), .int (nI j)] [] w Q ↔ Q (some (.long (mnF tf mf i j))) w := by
  have D' := D
  obtain ⟨h0, h1, h2, h3, h4⟩ := D
  obtain ⟨hn, hT⟩ := hT
  have hxi : x_pl (nI i) 12 := x_pl_nI (by omega) (by omega)
  have hci : (nI i).toNatClampNeg = i := cl_nI (by omega)
  have hxj : x_pl (nI j) 12 := x_pl_nI (by omega) (by omega)
  have hcj : (nI j).toNatClampNeg = j := cl_nI (by omega)
  simp only [q22_0, q22_1, q22_2, q22_5, q22_6, q22_7, q22_10, q22_11, q22_12, q22_13, q22_14, q22_15, q22_16, q22_19, q22_20, q22_21, q22_24, q22_25, q22_26, q22_27, q22_28, q22_29, gF0, gF1, gF2, gF3, gF4, gF5, gF6, gF7, gF8, gF9, gF10, gF11, gF12, gF13, gF14, gF15, gF16, gF17, gF18, gF19, pF0, pF1, pF2, pF3, pF4, pF5, pF6, pF7, pF8, pF9, pF10, pF11, pF12, pF13, pF14, pF15, pF16, pF17, pF18, pF19, aI_mk, aL_mk, aA_mk, sI_mk, sL_mk, sA_mk, isO_mk, rl_some, rl_none, true_and, and_true, true_or, or_true, wr_1, h0, h3, hxi, hci, hxj, hcj, c14 D' (show i < 12 by omega) (hT i hi).1 (hT i hi).2, c14 D' (show j < 12 by omega) (hT j hj).1 (hT j hj).2]
  rfl
theorem c23 (D : isD w o s p l n lf rf tf mf) {i j : Nat} (hi : i < 12) (hj : j < 12) : Wp 23 b 0 [.ref o, .int (nI i), .int (nI j)] [] w Q ↔ Q (some (.long (mdF tf i j))) w := by
  have D' := D
  obtain ⟨h0, h1, h2, h3, h4⟩ := D
  have hxi : x_pl (nI i) 12 := x_pl_nI (by omega) (by omega)
  have hci : (nI i).toNatClampNeg = i := cl_nI (by omega)
  have hxj : x_pl (nI j) 12 := x_pl_nI (by omega) (by omega)
  have hcj : (nI j).toNatClampNeg = j := cl_nI (by omega)
  simp only [q23_0, q23_1, q23_4, q23_5, q23_6, q23_7, q23_8, q23_11, q23_12, q23_13, q23_14, q23_15, gF0, gF1, gF2, gF3, gF4, gF5, gF6, gF7, gF8, gF9, gF10, gF11, gF12, gF13, gF14, gF15, gF16, gF17, gF18, gF19, pF0, pF1, pF2, pF3, pF4, pF5, pF6, pF7, pF8, pF9, pF10, pF11, pF12, pF13, pF14, pF15, pF16, pF17, pF18, pF19, aI_mk, aL_mk, aA_mk, sI_mk, sL_mk, sA_mk, isO_mk, rl_some, rl_none, true_and, and_true, true_or, or_true, wr_1, h0, h3, hxi, hci, hxj, hcj]
  rfl
def abL (x : Int64) : Int64 := if 0 < x then x else -x
/-- whether a row and its swapped one pass the limit -/
def psF (l : Int32) (n : Nat) (lf rf tf mf : Nat → Int32) (i : Nat) : Bool := decide (¬ swF n lf rf tf i = -1) && decide (¬ lg_cmp (abL (mnF tf mf i (swF n lf rf tf i).toNatClampNeg)) (l.toInt64 * mdF tf i (swF n lf rf tf i).toNatClampNeg) ≤ 0)
def anyN (P : Nat → Bool) : Nat → Nat → Bool
  | 0, _ => false
  | k + 1, i => P i || anyN P k (i + 1)
theorem anyN_congr {P P' : Nat → Bool} : ∀ (k i : Nat), (∀ j, i ≤ j → j < i + k → P j = P' j) → anyN P k i = anyN P' k i
  | 0, _, _ => rfl
  | k + 1, i, h => by
    show (P i || anyN P k (i + 1)) = (P' i || anyN P' k (i + 1))
    rw [h i (Nat.le_refl _) (by omega), anyN_congr k (i + 1) (fun j h1 h2 => h j (by omega) (by omega))]
theorem l24 (D : isD w o s p l n lf rf tf mf) (hT : vT n tf) : ∀ (k i : Nat) (v : Value), i + k = n → (Wp 24 b 2 [.ref o, .int (nI i), v] [] w Q ↔ Q (some (.int (bI (anyN (psF l n lf rf tf mf) k i = true)))) w) := by
  have D' := D
  obtain ⟨h0, h1, h2, h3, h4⟩ := D
  have hn := hT.1
  intro k
  induction k with
  | zero =>
    intro i v hi
    have hc : nI n ≤ nI i := nI_le (by omega) (by omega)
    simp only [q24_2, q24_3, q24_4, q24_7, q24_54, q24_55, gF0, gF1, gF2, gF3, gF4, gF5, gF6, gF7, gF8, gF9, gF10, gF11, gF12, gF13, gF14, gF15, gF16, gF17, gF18, gF19, pF0, pF1, pF2, pF3, pF4, pF5, pF6, pF7, pF8, pF9, pF10, pF11, pF12, pF13, pF14, pF15, pF16, pF17, pF18, pF19, aI_mk, aL_mk, aA_mk, sI_mk, sL_mk, sA_mk, isO_mk, rl_some, rl_none, true_and, and_true, true_or, or_true, wr_1, h0, if_pos hc]
    rfl
  | succ k ih =>
    intro i v hi
    have hc : ¬ nI n ≤ nI i := by rw [nI_le' (by omega) (by omega)]; omega
    simp only [q24_2]
    simp only [q24_3, q24_4, q24_7, q24_10, q24_11, q24_12, q24_15, q24_16, gF0, gF1, gF2, gF3, gF4, gF5, gF6, gF7, gF8, gF9, gF10, gF11, gF12, gF13, gF14, gF15, gF16, gF17, gF18, gF19, pF0, pF1, pF2, pF3, pF4, pF5, pF6, pF7, pF8, pF9, pF10, pF11, pF12, pF13, pF14, pF15, pF16, pF17, pF18, pF19, aI_mk, aL_mk, aA_mk, sI_mk, sL_mk, sA_mk, isO_mk, rl_some, rl_none, true_and, and_true, true_or, or_true, wr_1, h0, c20 D' hn (show i < 12 by omega), if_neg hc, nI_1]
    show _ ↔ Q (some (.int (bI ((psF l n lf rf tf mf i || anyN (psF l n lf rf tf mf) k (i + 1)) = true)))) w
    have e0 : psF l n lf rf tf mf i = (decide (¬ swF n lf rf tf i = -1) && decide (¬ lg_cmp (abL (mnF tf mf i (swF n lf rf tf i).toNatClampNeg)) (l.toInt64 * mdF tf i (swF n lf rf tf i).toNatClampNeg) ≤ 0)) := rfl
    rw [e0]
    rcases swF_or n lf rf tf i with e | ⟨j, hj, e, -, -⟩
    · simp only [q24_17, q24_18, q24_21, q24_22, q24_23, q24_24, q24_27, q24_30, q24_31, q24_34, q24_35, q24_36, q24_37, q24_38, q24_41, q24_42, q24_43, q24_46, q24_47, q24_48, q24_51, gF0, gF1, gF2, gF3, gF4, gF5, gF6, gF7, gF8, gF9, gF10, gF11, gF12, gF13, gF14, gF15, gF16, gF17, gF18, gF19, pF0, pF1, pF2, pF3, pF4, pF5, pF6, pF7, pF8, pF9, pF10, pF11, pF12, pF13, pF14, pF15, pF16, pF17, pF18, pF19, aI_mk, aL_mk, aA_mk, sI_mk, sL_mk, sA_mk, isO_mk, rl_some, rl_none, true_and, and_true, true_or, or_true, wr_1, e, if_true, nI_1]
      rw [ih (i + 1) _ (by omega)]
      simp
    · have hm := nI_m1 (a := j) (by omega)
      have hcj : (nI j).toNatClampNeg = j := cl_nI (by omega)
      simp only [q24_17, q24_18, q24_21, q24_22, q24_23, q24_24, q24_27, q24_30, q24_31, q24_34, q24_35, q24_36, q24_37, q24_38, q24_41, q24_42, q24_43, q24_46, q24_47, q24_48, q24_51, gF0, gF1, gF2, gF3, gF4, gF5, gF6, gF7, gF8, gF9, gF10, gF11, gF12, gF13, gF14, gF15, gF16, gF17, gF18, gF19, pF0, pF1, pF2, pF3, pF4, pF5, pF6, pF7, pF8, pF9, pF10, pF11, pF12, pF13, pF14, pF15, pF16, pF17, pF18, pF19, aI_mk, aL_mk, aA_mk, sI_mk, sL_mk, sA_mk, isO_mk, rl_some, rl_none, true_and, and_true, true_or, or_true, wr_1, e, hm, if_false, nI_1, h0, c22 D' hT (show i < n by omega) hj, c23 D' (show i < 12 by omega) (show j < 12 by omega), hcj]
      rw [ih (i + 1) _ (by omega)]
      show (if lg_cmp (abL (mnF tf mf i j)) (l.toInt64 * mdF tf i j) ≤ 0 then _ else _) ↔ _
      by_cases a1 : lg_cmp (abL (mnF tf mf i j)) (l.toInt64 * mdF tf i j) ≤ 0
      · simp [a1]
      · simp [a1, bI]
theorem c24 (D : isD w o s p l n lf rf tf mf) (hT : vT n tf) : Wp 24 b 0 [.ref o, x_no, x_no] [] w Q ↔ Q (some (.int (bI (anyN (psF l n lf rf tf mf) n 0 = true)))) w := by
  rw [q24_0, q24_1]
  exact l24 D hT n 0 _ (by omega)
/-- the most suspect row so far, its sum and its product -/
def msG (n : Nat) (lf rf tf mf : Nat → Int32) (a : Int32 × Int64 × Int64) (i : Nat) : Int32 × Int64 × Int64 := if swF n lf rf tf i = -1 then a else if a.1 = -1 ∨ ¬ lg_cmp (abL (mnF tf mf i (swF n lf rf tf i).toNatClampNeg) * a.2.2) (a.2.1 * mdF tf i (swF n lf rf tf i).toNatClampNeg) ≤ 0 then (nI i, abL (mnF tf mf i (swF n lf rf tf i).toNatClampNeg), mdF tf i (swF n lf rf tf i).toNatClampNeg) else a
/-- the most suspect row -/
def mrF (n : Nat) (lf rf tf mf : Nat → Int32) : Int32 := (foldN (msG n lf rf tf mf) n 0 (-1, 0, 1)).1
end DR2
