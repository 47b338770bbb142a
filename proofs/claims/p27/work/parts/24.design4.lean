section DV
variable {w : xW} {b o o' : Nat} {s p l s' p' l' : Int32} {n n' : Nat} {lf rf tf mf lf' rf' tf' mf' : Nat → Int32} {Q : Option Value → xW → Prop}
/-- two designs' first n rows agree -/
def agD (n : Nat) (lf rf tf mf lf' rf' tf' mf' : Nat → Int32) : Prop := ∀ j, j < n → lf j = lf' j ∧ rf j = rf' j ∧ tf j = tf' j ∧ ∀ x, x < tkF tf' j → mf (6 * j + x) = mf' (6 * j + x)
theorem l1 (hT : vT n' tf') (ho : o + 5 ≤ o' ∨ o' + 5 ≤ o) : ∀ (k i : Nat) (w : xW) (lf rf tf mf : Nat → Int32), i + k = n' → isD w o s' p' l' n' lf rf tf mf → isD w o' s' p' l' n' lf' rf' tf' mf' → agD i lf rf tf mf lf' rf' tf' mf' → (∀ w2 lf2 rf2 tf2 mf2, fr w w2 o (o + 5) → isD w2 o s' p' l' n' lf2 rf2 tf2 mf2 → agD n' lf2 rf2 tf2 mf2 lf' rf' tf' mf' → Q none w2) → Wp 1 b 34 [.ref o, .ref o', .int (nI i)] [] w Q := by
  obtain ⟨hn, hT⟩ := hT
  intro k
  induction k with
  | zero =>
    intro i w lf rf tf mf hi D D' ag K
    have D0 := D
    obtain ⟨h0, h1, h2, h3, h4⟩ := D
    have hc : nI n' ≤ nI i := nI_le (by omega) (by omega)
    simp only [q1_34, q1_35, q1_36, q1_39, q1_55, gF0, gF1, gF2, gF3, gF4, gF5, gF6, gF7, gF8, gF9, gF10, gF11, gF12, gF13, gF14, gF15, gF16, gF17, gF18, gF19, pF0, pF1, pF2, pF3, pF4, pF5, pF6, pF7, pF8, pF9, pF10, pF11, pF12, pF13, pF14, pF15, pF16, pF17, pF18, pF19, aI_mk, aL_mk, aA_mk, sI_mk, sL_mk, sA_mk, isO_mk, rl_some, rl_none, true_and, and_true, true_or, or_true, wr_1, h0, if_pos hc]
    have e : i = n' := by omega
    subst e
    exact K w lf rf tf mf fr.rf D0 ag
  | succ k ih =>
    intro i w lf rf tf mf hi D D' ag K
    have D0 := D
    have D0' := D'
    obtain ⟨h0, h1, h2, h3, h4⟩ := D
    have hc : ¬ nI n' ≤ nI i := by rw [nI_le' (by omega) (by omega)]; omega
    obtain ⟨t1, t2⟩ := hT i (by omega)
    simp only [q1_34]
    simp only [q1_35, q1_36, q1_39, q1_42, q1_43, q1_44, q1_45, q1_46, gF0, gF1, gF2, gF3, gF4, gF5, gF6, gF7, gF8, gF9, gF10, gF11, gF12, gF13, gF14, gF15, gF16, gF17, gF18, gF19, pF0, pF1, pF2, pF3, pF4, pF5, pF6, pF7, pF8, pF9, pF10, pF11, pF12, pF13, pF14, pF15, pF16, pF17, pF18, pF19, aI_mk, aL_mk, aA_mk, sI_mk, sL_mk, sA_mk, isO_mk, rl_some, rl_none, true_and, and_true, true_or, or_true, wr_1, h0, if_neg hc]
    refine c2 D0 D0' ho (i := i) (i' := i) (t := tkF tf' i) (by omega) (by omega) t1 t2 (fun w2 f2 d2 => ?_)
    simp only [q1_49, q1_52, gF0, gF1, gF2, gF3, gF4, gF5, gF6, gF7, gF8, gF9, gF10, gF11, gF12, gF13, gF14, gF15, gF16, gF17, gF18, gF19, pF0, pF1, pF2, pF3, pF4, pF5, pF6, pF7, pF8, pF9, pF10, pF11, pF12, pF13, pF14, pF15, pF16, pF17, pF18, pF19, aI_mk, aL_mk, aA_mk, sI_mk, sL_mk, sA_mk, isO_mk, rl_some, rl_none, true_and, and_true, true_or, or_true, wr_1, nI_1]
    refine ih (i + 1) w2 _ _ _ _ (by omega) d2 (D0'.fr f2 (by omega)) ?_ (fun w3 lf3 rf3 tf3 mf3 f3 => K w3 lf3 rf3 tf3 mf3 (f2.tr f3))
    intro j hj
    by_cases e : j = i
    · subst e
      refine ⟨pk_us, pk_us, pk_us, fun x hx => ?_⟩
      rw [cpF_at, if_pos (by omega), show 6 * j + x - 6 * j = x by omega]
    · obtain ⟨a1, a2, a3, a4⟩ := ag j (by omega)
      refine ⟨(pk_un e).trans a1, (pk_un e).trans a2, (pk_un e).trans a3, fun x hx => ?_⟩
      have hx6 := (hT j (by omega)).2
      rw [cpF_at, if_neg (by omega)]
      exact a4 x hx
theorem c1 (D : isD w o s p l n lf rf tf mf) (D' : isD w o' s' p' l' n' lf' rf' tf' mf') (hT : vT n' tf') (ho : o + 5 ≤ o' ∨ o' + 5 ≤ o) (K : ∀ w2 lf2 rf2 tf2 mf2, fr w w2 o (o + 5) → isD w2 o s' p' l' n' lf2 rf2 tf2 mf2 → agD n' lf2 rf2 tf2 mf2 lf' rf' tf' mf' → Q none w2) : Wp 1 b 0 [.ref o, .ref o', x_no] [] w Q := by
  have D0 := D
  have D0' := D'
  obtain ⟨h0, h1, h2, h3, h4⟩ := D
  obtain ⟨g0, g1, g2, g3, g4⟩ := D'
  have n1 : o ≠ o' := by omega
  have n2 : o' ≠ o := by omega
  simp only [q1_0, q1_1, q1_2, q1_5, q1_8, q1_9, q1_10, q1_13, q1_16, q1_17, q1_18, q1_21, q1_24, q1_25, q1_26, q1_29, q1_32, q1_33, gF0, gF1, gF2, gF3, gF4, gF5, gF6, gF7, gF8, gF9, gF10, gF11, gF12, gF13, gF14, gF15, gF16, gF17, gF18, gF19, pF0, pF1, pF2, pF3, pF4, pF5, pF6, pF7, pF8, pF9, pF10, pF11, pF12, pF13, pF14, pF15, pF16, pF17, pF18, pF19, aI_mk, aL_mk, aA_mk, sI_mk, sL_mk, sA_mk, isO_mk, rl_some, rl_none, true_and, and_true, true_or, or_true, wr_1, h0, g0, rd_s, rd_n n2]
  have e : wr (wr (wr (wr w o (.inr (0, [.int s', .int p, .int l, .int (nI n), .ref (o + 1), .ref (o + 2), .ref (o + 3), .ref (o + 4)]))) o (.inr (0, [.int s', .int p', .int l, .int (nI n), .ref (o + 1), .ref (o + 2), .ref (o + 3), .ref (o + 4)]))) o (.inr (0, [.int s', .int p', .int l', .int (nI n), .ref (o + 1), .ref (o + 2), .ref (o + 3), .ref (o + 4)]))) o (.inr (0, [.int s', .int p', .int l', .int (nI n'), .ref (o + 1), .ref (o + 2), .ref (o + 3), .ref (o + 4)])) = wr w o (.inr (0, [.int s', .int p', .int l', .int (nI n'), .ref (o + 1), .ref (o + 2), .ref (o + 3), .ref (o + 4)])) := by
    unfold wr
    refine Prod.ext rfl (Prod.ext (funext fun j => ?_) rfl)
    by_cases h : j = o
    · simp [h]
    · simp [h]
  rw [e]
  have f1 : fr w (wr w o (.inr (0, [.int s', .int p', .int l', .int (nI n'), .ref (o + 1), .ref (o + 2), .ref (o + 3), .ref (o + 4)]))) o (o + 5) := fr.wr (by omega) (by omega)
  exact l1 hT ho n' 0 _ _ _ _ _ (by omega) D0.s0 (D0'.fr f1 (by omega)) (fun j hj => absurd hj (Nat.not_lt_zero _)) (fun w3 lf3 rf3 tf3 mf3 f3 => K w3 lf3 rf3 tf3 mf3 (f1.tr f3))
theorem c7 (D : isD w o s p l n lf rf tf mf) (hn : n < 12) {x y : Int32} (K : ∀ w2, fr w w2 o (o + 5) → isD w2 o s p l (n + 1) (upd lf n x) (upd rf n y) (upd tf n 0) mf → Q (some (.int (nI n))) w2) : Wp 7 b 0 [.ref o, .int x, .int y, x_no] [] w Q := by
  have D0 := D
  obtain ⟨h0, h1, h2, h3, h4⟩ := D
  have hx : x_pl (nI n) 12 := x_pl_nI (by omega) (by omega)
  have hcl : (nI n).toNatClampNeg = n := cl_nI (by omega)
  have k1 : o ≠ o + 1 := by omega
  have k2 : o ≠ o + 2 := by omega
  have k3 : o ≠ o + 3 := by omega
  have k4 : o + 2 ≠ o + 1 := by omega
  have k5 : o + 3 ≠ o + 1 := by omega
  have k6 : o + 3 ≠ o + 2 := by omega
  simp only [q7_0, q7_1, q7_4, q7_5, q7_6, q7_9, q7_10, q7_11, q7_12, q7_13, q7_16, q7_17, q7_18, q7_19, q7_20, q7_23, q7_24, q7_25, q7_26, q7_27, q7_28, q7_29, q7_30, q7_33, q7_34, gF0, gF1, gF2, gF3, gF4, gF5, gF6, gF7, gF8, gF9, gF10, gF11, gF12, gF13, gF14, gF15, gF16, gF17, gF18, gF19, pF0, pF1, pF2, pF3, pF4, pF5, pF6, pF7, pF8, pF9, pF10, pF11, pF12, pF13, pF14, pF15, pF16, pF17, pF18, pF19, aI_mk, aL_mk, aA_mk, sI_mk, sL_mk, sA_mk, isO_mk, rl_some, rl_none, true_and, and_true, true_or, or_true, wr_1, h0, h1, h2, h3, hx, hcl, rd_n k1, rd_n k2, rd_n k3, rd_n k4, rd_n k5, rd_n k6, nI_1]
  refine K _ ?_ ?_
  · exact (((fr.wr (by omega) (by omega)).tr (fr.wr (by omega) (by omega))).tr (fr.wr (by omega) (by omega))).tr (fr.wr (by omega) (by omega))
  · exact D0.s1.s2.s3.s0
theorem c9 (D : isD w o s p l n lf rf tf mf) {i t : Nat} {x : Int32} (hi : i < 12) (ht : tf i = nI t) (ht6 : t < 6) (K : ∀ w2, fr w w2 o (o + 5) → isD w2 o s p l n lf rf (upd tf i (nI (t + 1))) (upd mf (6 * i + t) x) → Q (some (.int (nI t))) w2) : Wp 9 b 0 [.ref o, .int (nI i), .int x, x_no] [] w Q := by
  have D0 := D
  obtain ⟨h0, h1, h2, h3, h4⟩ := D
  have hx : x_pl (nI i) 12 := x_pl_nI (by omega) (by omega)
  have hcl : (nI i).toNatClampNeg = i := cl_nI (by omega)
  have hy : x_pl (nI (6 * i + t)) 72 := x_pl_nI (by omega) (by omega)
  have hyl : (nI (6 * i + t)).toNatClampNeg = 6 * i + t := cl_nI (by omega)
  have k1 : o ≠ o + 4 := by omega
  have k2 : o + 3 ≠ o + 4 := by omega
  simp only [q9_0, q9_1, q9_4, q9_5, q9_6, q9_7, q9_8, q9_11, q9_12, q9_14, q9_15, q9_16, q9_17, q9_18, q9_19, q9_20, q9_23, q9_24, q9_25, q9_26, q9_27, q9_28, q9_29, gF0, gF1, gF2, gF3, gF4, gF5, gF6, gF7, gF8, gF9, gF10, gF11, gF12, gF13, gF14, gF15, gF16, gF17, gF18, gF19, pF0, pF1, pF2, pF3, pF4, pF5, pF6, pF7, pF8, pF9, pF10, pF11, pF12, pF13, pF14, pF15, pF16, pF17, pF18, pF19, aI_mk, aL_mk, aA_mk, sI_mk, sL_mk, sA_mk, isO_mk, rl_some, rl_none, true_and, and_true, true_or, or_true, wr_1, h0, h3, h4, hx, hcl, ht, m6, hy, hyl, rd_n k1, rd_n k2, nI_1]
  exact K _ ((fr.wr (by omega) (by omega)).tr (fr.wr (by omega) (by omega))) D0.s4.s3
/-- removeReading -/
theorem l10 {v : Int32} {i t : Nat} (hi : i < 12) (ht : tf i = nI t) (ht6 : t < 6) : ∀ (k j : Nat) (w : xW) (mf : Nat → Int32), j + k = t → isD w o s p l n lf rf tf mf → (∀ w2 mf2, fr w w2 o (o + 5) → isD w2 o s p l n lf rf tf mf2 → (∀ x, mf2 x = if 6 * i + j ≤ x ∧ x < 6 * i + t then mf (x + 1) else mf x) → Q none w2) → Wp 10 b 16 [.ref o, .int (nI i), .int v, .int (nI j)] [] w Q := by
  have hx : x_pl (nI i) 12 := x_pl_nI (by omega) (by omega)
  have hcl : (nI i).toNatClampNeg = i := cl_nI (by omega)
  intro k
  induction k with
  | zero =>
    intro j w mf hj D K
    have D0 := D
    obtain ⟨h0, h1, h2, h3, h4⟩ := D
    have hc : nI t ≤ nI j := nI_le (by omega) (by omega)
    simp only [q10_16, q10_17, q10_18, q10_21, q10_22, q10_23, q10_56, gF0, gF1, gF2, gF3, gF4, gF5, gF6, gF7, gF8, gF9, gF10, gF11, gF12, gF13, gF14, gF15, gF16, gF17, gF18, gF19, pF0, pF1, pF2, pF3, pF4, pF5, pF6, pF7, pF8, pF9, pF10, pF11, pF12, pF13, pF14, pF15, pF16, pF17, pF18, pF19, aI_mk, aL_mk, aA_mk, sI_mk, sL_mk, sA_mk, isO_mk, rl_some, rl_none, true_and, and_true, true_or, or_true, wr_1, h0, h3, hx, hcl, ht, if_pos hc]
    exact K w mf fr.rf D0 (fun x => by rw [if_neg (by omega)])
  | succ k ih =>
    intro j w mf hj D K
    have D0 := D
    obtain ⟨h0, h1, h2, h3, h4⟩ := D
    have hc : ¬ nI t ≤ nI j := by rw [nI_le' (by omega) (by omega)]; omega
    have hy : x_pl (nI (6 * i + j)) 72 := x_pl_nI (by omega) (by omega)
    have hyl : (nI (6 * i + j)).toNatClampNeg = 6 * i + j := cl_nI (by omega)
    have hz : x_pl (nI (6 * i + j + 1)) 72 := x_pl_nI (by omega) (by omega)
    have hzl : (nI (6 * i + j + 1)).toNatClampNeg = 6 * i + j + 1 := cl_nI (by omega)
    simp only [q10_16]
    simp only [q10_17, q10_18, q10_21, q10_22, q10_23, q10_26, q10_27, q10_30, q10_31, q10_33, q10_34, q10_35, q10_36, q10_37, q10_40, q10_41, q10_43, q10_44, q10_45, q10_46, q10_47, q10_48, q10_49, q10_50, q10_53, gF0, gF1, gF2, gF3, gF4, gF5, gF6, gF7, gF8, gF9, gF10, gF11, gF12, gF13, gF14, gF15, gF16, gF17, gF18, gF19, pF0, pF1, pF2, pF3, pF4, pF5, pF6, pF7, pF8, pF9, pF10, pF11, pF12, pF13, pF14, pF15, pF16, pF17, pF18, pF19, aI_mk, aL_mk, aA_mk, sI_mk, sL_mk, sA_mk, isO_mk, rl_some, rl_none, true_and, and_true, true_or, or_true, wr_1, h0, h3, h4, hx, hcl, ht, if_neg hc, m6, hy, hyl, nI_1, hz, hzl]
    refine ih (j + 1) _ _ (by omega) D0.s4 (fun w2 mf2 f2 d2 e2 => K w2 mf2 ((fr.wr (by omega) (by omega)).tr f2) d2 (fun x => ?_))
    rw [e2 x]
    by_cases c1 : 6 * i + (j + 1) ≤ x ∧ x < 6 * i + t
    · rw [if_pos c1, if_pos (by omega), pk_un (by omega)]
    · rw [if_neg c1]
      by_cases c2 : x = 6 * i + j
      · subst c2
        rw [pk_us, if_pos (by omega)]
      · rw [pk_un c2, if_neg (by omega)]
theorem c10 (D : isD w o s p l n lf rf tf mf) {i t j : Nat} (hi : i < 12) (ht : tf i = nI (t + 1)) (ht6 : t < 6) (hj : j ≤ t) (K : ∀ w2 mf2, fr w w2 o (o + 5) → isD w2 o s p l n lf rf (upd tf i (nI t)) mf2 → (∀ x, mf2 x = if 6 * i + j ≤ x ∧ x < 6 * i + t then mf (x + 1) else mf x) → Q none w2) : Wp 10 b 0 [.ref o, .int (nI i), .int (nI j), x_no] [] w Q := by
  have D0 := D
  obtain ⟨h0, h1, h2, h3, h4⟩ := D
  have hx : x_pl (nI i) 12 := x_pl_nI (by omega) (by omega)
  have hcl : (nI i).toNatClampNeg = i := cl_nI (by omega)
  have e1 : nI (t + 1) - 1 = nI t := nI_pred t
  simp only [q10_0, q10_1, q10_4, q10_5, q10_6, q10_9, q10_10, q10_11, q10_12, q10_13, q10_14, q10_15, gF0, gF1, gF2, gF3, gF4, gF5, gF6, gF7, gF8, gF9, gF10, gF11, gF12, gF13, gF14, gF15, gF16, gF17, gF18, gF19, pF0, pF1, pF2, pF3, pF4, pF5, pF6, pF7, pF8, pF9, pF10, pF11, pF12, pF13, pF14, pF15, pF16, pF17, pF18, pF19, aI_mk, aL_mk, aA_mk, sI_mk, sL_mk, sA_mk, isO_mk, rl_some, rl_none, true_and, and_true, true_or, or_true, wr_1, h0, h3, hx, hcl, ht, e1]
  have f1 : fr w (wr w (o + 3) (.inl (0, 12, .inl (upd tf i (nI t))))) o (o + 5) := fr.wr (by omega) (by omega)
  exact l10 hi (tf := upd tf i (nI t)) pk_us ht6 (t - j) j _ mf (by omega) D0.s3 (fun w2 mf2 f2 d2 e2 => K w2 mf2 (f1.tr f2) d2 e2)
/-- copyRow within one design -/
theorem l2s {i i' t : Nat} (hi : i < 12) (hi' : i' < 12) (hne : i ≠ i') (ht : tf i' = nI t) (ht6 : t ≤ 6) {m0 : Nat → Int32} : ∀ (k j : Nat) (w : xW) (mf : Nat → Int32), isD w o s p l n lf rf tf mf → (∀ x, x < 6 → mf (6 * i + x) = m0 (6 * i + x)) → j + k = t → (∀ w2, fr w w2 o (o + 5) → isD w2 o s p l n lf rf tf (cpF m0 i i' k j mf) → Q none w2) → Wp 2 b 39 [.ref o, .ref o, .int (nI i), .int (nI i'), .int (nI j)] [] w Q := by
  have hx : x_pl (nI i) 12 := x_pl_nI (by omega) (by omega)
  have hcl : (nI i).toNatClampNeg = i := cl_nI (by omega)
  have hx' : x_pl (nI i') 12 := x_pl_nI (by omega) (by omega)
  have hcl' : (nI i').toNatClampNeg = i' := cl_nI (by omega)
  intro k
  induction k with
  | zero =>
    intro j w mf D hm hj K
    have D0 := D
    obtain ⟨h0, h1, h2, h3, h4⟩ := D
    have hc : nI t ≤ nI j := nI_le (by omega) (by omega)
    simp only [q2_39, q2_41, q2_42, q2_45, q2_46, q2_47, q2_80, gF0, gF1, gF2, gF3, gF4, gF5, gF6, gF7, gF8, gF9, gF10, gF11, gF12, gF13, gF14, gF15, gF16, gF17, gF18, gF19, pF0, pF1, pF2, pF3, pF4, pF5, pF6, pF7, pF8, pF9, pF10, pF11, pF12, pF13, pF14, pF15, pF16, pF17, pF18, pF19, aI_mk, aL_mk, aA_mk, sI_mk, sL_mk, sA_mk, isO_mk, rl_some, rl_none, true_and, and_true, true_or, or_true, wr_1, h0, h3, hx', hcl', ht, if_pos hc]
    exact K w fr.rf D0
  | succ k ih =>
    intro j w mf D hm hj K
    have D0 := D
    obtain ⟨h0, h1, h2, h3, h4⟩ := D
    have hc : ¬ nI t ≤ nI j := by rw [nI_le' (by omega) (by omega)]; omega
    have hy : x_pl (nI (6 * i + j)) 72 := x_pl_nI (by omega) (by omega)
    have hyl : (nI (6 * i + j)).toNatClampNeg = 6 * i + j := cl_nI (by omega)
    have hy' : x_pl (nI (6 * i' + j)) 72 := x_pl_nI (by omega) (by omega)
    have hyl' : (nI (6 * i' + j)).toNatClampNeg = 6 * i' + j := cl_nI (by omega)
    simp only [q2_39]
    simp only [q2_41, q2_42, q2_45, q2_46, q2_47, q2_50, q2_51, q2_54, q2_55, q2_57, q2_58, q2_60, q2_61, q2_62, q2_65, q2_66, q2_68, q2_69, q2_71, q2_72, q2_73, q2_74, q2_77, gF0, gF1, gF2, gF3, gF4, gF5, gF6, gF7, gF8, gF9, gF10, gF11, gF12, gF13, gF14, gF15, gF16, gF17, gF18, gF19, pF0, pF1, pF2, pF3, pF4, pF5, pF6, pF7, pF8, pF9, pF10, pF11, pF12, pF13, pF14, pF15, pF16, pF17, pF18, pF19, aI_mk, aL_mk, aA_mk, sI_mk, sL_mk, sA_mk, isO_mk, rl_some, rl_none, true_and, and_true, true_or, or_true, wr_1, h0, h3, h4, hx', hcl', ht, if_neg hc, m6, hy, hyl, hy', hyl', nI_1, hm j (by omega)]
    refine ih (j + 1) _ _ D0.s4 (fun x hx6 => ?_) (by omega) (fun w2 f2 d2 => K w2 ?_ d2)
    · rw [pk_un (by omega)]
      exact hm x hx6
    · exact (fr.wr (by omega) (by omega)).tr f2
theorem c2s (D : isD w o s p l n lf rf tf mf) {i i' t : Nat} (hi : i < 12) (hi' : i' < 12) (hne : i ≠ i') (ht : tf i = nI t) (ht6 : t ≤ 6) (K : ∀ w2, fr w w2 o (o + 5) → isD w2 o s p l n (upd lf i' (lf i)) (upd rf i' (rf i)) (upd tf i' (tf i)) (cpF mf i i' t 0 mf) → Q none w2) : Wp 2 b 0 [.ref o, .ref o, .int (nI i), .int (nI i'), x_no] [] w Q := by
  have D0 := D
  obtain ⟨h0, h1, h2, h3, h4⟩ := D
  have hx : x_pl (nI i) 12 := x_pl_nI (by omega) (by omega)
  have hcl : (nI i).toNatClampNeg = i := cl_nI (by omega)
  have hx' : x_pl (nI i') 12 := x_pl_nI (by omega) (by omega)
  have hcl' : (nI i').toNatClampNeg = i' := cl_nI (by omega)
  simp only [q2_0, q2_1, q2_4, q2_5, q2_6, q2_9, q2_10, q2_11, gF0, gF1, gF2, gF3, gF4, gF5, gF6, gF7, gF8, gF9, gF10, gF11, gF12, gF13, gF14, gF15, gF16, gF17, gF18, gF19, pF0, pF1, pF2, pF3, pF4, pF5, pF6, pF7, pF8, pF9, pF10, pF11, pF12, pF13, pF14, pF15, pF16, pF17, pF18, pF19, aI_mk, aL_mk, aA_mk, sI_mk, sL_mk, sA_mk, isO_mk, rl_some, rl_none, true_and, and_true, true_or, or_true, wr_1, h0, h1, hx, hcl, hx', hcl']
  have E1 := D0.s1 (g := upd lf i' (lf i))
  have f1 : fr w (wr w (o + 1) (.inl (0, 12, .inl (upd lf i' (lf i))))) o (o + 5) := fr.wr (by omega) (by omega)
  generalize wr w (o + 1) (.inl (0, 12, .inl (upd lf i' (lf i)))) = w1 at E1 f1 ⊢
  have E10 := E1
  obtain ⟨h0, h1, h2, h3, h4⟩ := E1
  simp only [q2_12, q2_13, q2_16, q2_17, q2_18, q2_21, q2_22, q2_23, gF0, gF1, gF2, gF3, gF4, gF5, gF6, gF7, gF8, gF9, gF10, gF11, gF12, gF13, gF14, gF15, gF16, gF17, gF18, gF19, pF0, pF1, pF2, pF3, pF4, pF5, pF6, pF7, pF8, pF9, pF10, pF11, pF12, pF13, pF14, pF15, pF16, pF17, pF18, pF19, aI_mk, aL_mk, aA_mk, sI_mk, sL_mk, sA_mk, isO_mk, rl_some, rl_none, true_and, and_true, true_or, or_true, wr_1, h0, h2, hx, hcl, hx', hcl']
  have E2 := E10.s2 (g := upd rf i' (rf i))
  have f2 : fr w (wr w1 (o + 2) (.inl (0, 12, .inl (upd rf i' (rf i))))) o (o + 5) := f1.tr (fr.wr (by omega) (by omega))
  generalize wr w1 (o + 2) (.inl (0, 12, .inl (upd rf i' (rf i)))) = w2 at E2 f2 ⊢
  have E20 := E2
  obtain ⟨h0, h1, h2, h3, h4⟩ := E2
  simp only [q2_24, q2_25, q2_28, q2_29, q2_30, q2_33, q2_34, q2_35, q2_36, q2_37, gF0, gF1, gF2, gF3, gF4, gF5, gF6, gF7, gF8, gF9, gF10, gF11, gF12, gF13, gF14, gF15, gF16, gF17, gF18, gF19, pF0, pF1, pF2, pF3, pF4, pF5, pF6, pF7, pF8, pF9, pF10, pF11, pF12, pF13, pF14, pF15, pF16, pF17, pF18, pF19, aI_mk, aL_mk, aA_mk, sI_mk, sL_mk, sA_mk, isO_mk, rl_some, rl_none, true_and, and_true, true_or, or_true, wr_1, h0, h3, hx, hcl, hx', hcl']
  have E3 := E20.s3 (g := upd tf i' (tf i))
  have f3 : fr w (wr w2 (o + 3) (.inl (0, 12, .inl (upd tf i' (tf i))))) o (o + 5) := f2.tr (fr.wr (by omega) (by omega))
  generalize wr w2 (o + 3) (.inl (0, 12, .inl (upd tf i' (tf i)))) = w3 at E3 f3 ⊢
  exact l2s hi hi' hne (t := t) (by rw [pk_us]; exact ht) ht6 t 0 w3 mf E3 (fun _ _ => rfl) (by omega) (fun w4 f4 d4 => K w4 (f3.tr f4) d4)
/-- places from r on hold what stood one further -/
def shF (f : Nat → Int32) (r : Nat) : Nat → Int32 := fun j => if j < r then f j else f (j + 1)
def shM (f : Nat → Int32) (r : Nat) : Nat → Int32 := fun x => if x < 6 * r then f x else f (x + 6)
end DV
