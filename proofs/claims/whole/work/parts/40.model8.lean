section MR8
variable {b : Nat} {m : xM} {n U : Nat} {Q : Option Value → xW → Prop}
/-- a residual, out of the reference's last solution -/
def rM (m : xM) (U : Nat) (i j : Nat) : Int64 := rsF (m.df 0) (lD m.df) (rD m.df) (mD m.df) U m.be m.vf i j
theorem l109 {w : xW} (D : isM w m) (hp : 4 + m.df 1 = nI U) (hU : U ≤ 5) {i j : Nat} (hi : i < 12) : ∀ (c z : Nat) (a : Int64), z + c = U → (Wp 109 b 15 [.ref 51, .int (nI i), .int (nI j), .long a, x_no, .int (nI z)] [] w Q ↔ Q (some (.long (foldN (fun a z => a - (fcF (lD m.df) (rD m.df) i (nI z)).toInt64 * m.vf z) c z a))) w) := by
  have h0 := D.1
  have h8 : rd w 58 = .inl (1, 5, .inr (.inl m.vf)) := D.2.2.2.2.2.2.2.1
  intro c
  induction c with
  | zero =>
    intro z a hz
    have hc : nI U ≤ nI z := nI_le (by omega) (by omega)
    simp only [q109_15, q109_17, q109_18, q109_21, q109_49, q109_50, gF0, gF1, gF2, gF3, gF4, gF5, gF6, gF7, gF8, gF9, gF10, gF11, gF12, gF13, gF14, gF15, gF16, gF17, gF18, gF19, pF0, pF1, pF2, pF3, pF4, pF5, pF6, pF7, pF8, pF9, pF10, pF11, pF12, pF13, pF14, pF15, pF16, pF17, pF18, pF19, aI_mk, aL_mk, aA_mk, sI_mk, sL_mk, sA_mk, isO_mk, rl_some, rl_none, true_and, and_true, true_or, or_true, wr_1, h0, oM, c102 D, hp, if_pos hc]
    rfl
  | succ c ih =>
    intro z a hz
    have hc : ¬ nI U ≤ nI z := by rw [nI_le' (by omega) (by omega)]; omega
    have hx : x_pl (nI z) 5 := x_pl_nI (by omega) (by omega)
    have hcl : (nI z).toNatClampNeg = z := cl_nI (by omega)
    simp only [q109_15]
    simp only [q109_17, q109_18, q109_21, q109_24, q109_25, q109_26, q109_27, q109_29, q109_32, q109_33, q109_34, q109_37, q109_39, q109_40, q109_41, q109_42, q109_43, q109_46, gF0, gF1, gF2, gF3, gF4, gF5, gF6, gF7, gF8, gF9, gF10, gF11, gF12, gF13, gF14, gF15, gF16, gF17, gF18, gF19, pF0, pF1, pF2, pF3, pF4, pF5, pF6, pF7, pF8, pF9, pF10, pF11, pF12, pF13, pF14, pF15, pF16, pF17, pF18, pF19, aI_mk, aL_mk, aA_mk, sI_mk, sL_mk, sA_mk, isO_mk, rl_some, rl_none, true_and, and_true, true_or, or_true, wr_1, h0, oM, c102 D, hp, if_neg hc, h8, hx, hcl, c103 D hi (show z < 5 by omega), nI_1]
    exact ih (z + 1) _ (by omega)
theorem c109 {w : xW} (D : isM w m) (hp : 4 + m.df 1 = nI U) (hU : U ≤ 5) {i j : Nat} (hi : i < 12) (hj : j < 6) : Wp 109 b 0 [.ref 51, .int (nI i), .int (nI j), x_no, x_no, x_no] [] w Q ↔ Q (some (.long (rM m U i j))) w := by
  have h0 := D.1
  simp only [q109_0, q109_1, q109_2, q109_3, q109_6, q109_7, q109_10, q109_11, q109_12, q109_13, gF0, gF1, gF2, gF3, gF4, gF5, gF6, gF7, gF8, gF9, gF10, gF11, gF12, gF13, gF14, gF15, gF16, gF17, gF18, gF19, pF0, pF1, pF2, pF3, pF4, pF5, pF6, pF7, pF8, pF9, pF10, pF11, pF12, pF13, pF14, pF15, pF16, pF17, pF18, pF19, aI_mk, aL_mk, aA_mk, sI_mk, sL_mk, sA_mk, isO_mk, rl_some, rl_none, true_and, and_true, true_or, or_true, wr_1, h0, oM, c105 D hi hj]
  rw [Int64.mul_comm]
  exact l109 D hp hU hi U 0 _ (by omega)
theorem mN_k {m m2 : xM} {n : Nat} (h1 : m2.df = m.df) (h2 : m2.wr = m.wr) (h3 : m2.wd = m.wd) : mN m2 n = mN m n := by
  unfold mN ouF
  simp only [h1, h2, h3]
theorem mS_k {m m2 : xM} {n : Nat} (h1 : m2.df = m.df) (h2 : m2.wr = m.wr) (h3 : m2.wd = m.wd) : mS m2 n = mS m n := by
  unfold mS ouF
  simp only [h1, h2, h3]
/-- a row is needed -/
abbrev neM (m : xM) (n U : Nat) (r : Nat) : Prop := ¬ dtF U (mN m n) = 0 ∧ dtF U (mN (m.s_wr (nI r)) n) = 0
theorem t_wr_k {m m2 : xM} {x : Int32} (k : kM m m2) : kM (m.s_wr x) (m2.s_wr x) := by
  unfold kM at *
  simp only [s_wr_df, s_wr_wf, s_wr_st, s_wr_af, s_wr_cf, s_wr_ty, s_wr_pa, s_wr_le, s_wr_ri, s_wr_re, s_wr_rs, s_wr_nf, s_wr_wr, s_wr_wd, s_wr_mf, s_wr_vf, s_wr_be, s_wr_fa, s_wr_up, s_wr_dn]
  exact ⟨k.1, k.2.1, k.2.2.1, k.2.2.2.1, k.2.2.2.2.1, trivial, k.2.2.2.2.2.2⟩
theorem t_wr_b {m m2 : xM} {x : Int32} (k : kM (m.s_wr x) m2) : kM m (m2.s_wr m.wr) := by
  unfold kM at *
  simp only [s_wr_df, s_wr_wf, s_wr_st, s_wr_af, s_wr_cf, s_wr_ty, s_wr_pa, s_wr_le, s_wr_ri, s_wr_re, s_wr_rs, s_wr_nf, s_wr_wr, s_wr_wd, s_wr_mf, s_wr_vf, s_wr_be, s_wr_fa, s_wr_up, s_wr_dn] at *
  exact ⟨k.1, k.2.1, k.2.2.1, k.2.2.2.1, k.2.2.2.2.1, trivial, k.2.2.2.2.2.2⟩
theorem c110 {w : xW} (D : isM w m) (v : vM m.df n) (hp : 4 + m.df 1 = nI U) (hU : U = 4 ∨ U = 5) (hw : m.wr = -1) {r : Nat} (K : ∀ w2 m2, fr w w2 51 60 → isM w2 m2 → kM m m2 → Q (some (.int (bI (neM m n U r)))) w2) : Wp 110 b 0 [.ref 51, .int (nI r), x_no, x_no] [] w Q := by
  have h0 := D.1
  simp only [q110_0, q110_1, gF0, gF1, gF2, gF3, gF4, gF5, gF6, gF7, gF8, gF9, gF10, gF11, gF12, gF13, gF14, gF15, gF16, gF17, gF18, gF19, pF0, pF1, pF2, pF3, pF4, pF5, pF6, pF7, pF8, pF9, pF10, pF11, pF12, pF13, pF14, pF15, pF16, pF17, pF18, pF19, aI_mk, aL_mk, aA_mk, sI_mk, sL_mk, sA_mk, isO_mk, rl_some, rl_none, true_and, and_true, true_or, or_true, wr_1, h0, oM]
  refine c108 D v hp hU (fun w2 m2 f2 D2 k2 _ _ _ => ?_)
  have h2 := D2.1
  have D3 := D2.o_wr (nI r)
  have k3 : kM (m.s_wr (nI r)) (m2.s_wr (nI r)) := t_wr_k k2
  have ed : (m2.s_wr (nI r)).df = m.df := by rw [k3.1, s_wr_df]
  have v3 : vM (m2.s_wr (nI r)).df n := by
    rw [ed]
    exact v
  have hp3 : 4 + (m2.s_wr (nI r)).df 1 = nI U := by
    rw [ed]
    exact hp
  simp only [q110_4, q110_5, q110_6, q110_7, q110_10, q110_11, gF0, gF1, gF2, gF3, gF4, gF5, gF6, gF7, gF8, gF9, gF10, gF11, gF12, gF13, gF14, gF15, gF16, gF17, gF18, gF19, pF0, pF1, pF2, pF3, pF4, pF5, pF6, pF7, pF8, pF9, pF10, pF11, pF12, pF13, pF14, pF15, pF16, pF17, pF18, pF19, aI_mk, aL_mk, aA_mk, sI_mk, sL_mk, sA_mk, isO_mk, rl_some, rl_none, true_and, and_true, true_or, or_true, wr_1, h2, oM, bI_01, rd_s]
  refine c108 D3 v3 hp3 hU (fun w4 m4 f4 D4 k4 _ _ _ => ?_)
  have h4 := D4.1
  have D5 := D4.o_wr (-1)
  have e3 : mN (m2.s_wr (nI r)) n = mN (m.s_wr (nI r)) n := mN_k k3.1 k3.2.2.2.2.2.1 k3.2.2.2.2.2.2
  have k5 : kM m (m4.s_wr (-1)) := by
    rw [← hw]
    exact t_wr_b (k3.tr k4)
  have hf := ((f2.tr (fr.wr (a := 51) (c := .inr (6, [.ref 52, .ref 53, .int (nI m2.st), .ref 54, .ref 55, .int (nI m2.ty), .int m2.pa, .int m2.le, .int m2.ri, .int m2.re, .int m2.rs, .ref 56, .int (nI r), .int m2.wd, .ref 57, .ref 58, .long m2.be, .ref 59, .long m2.up, .long m2.dn])) (by omega) (by omega))).tr f4).tr (fr.wr (a := 51) (c := .inr (6, [.ref 52, .ref 53, .int (nI m4.st), .ref 54, .ref 55, .int (nI m4.ty), .int m4.pa, .int m4.le, .int m4.ri, .int m4.re, .int m4.rs, .ref 56, .int (-1), .int m4.wd, .ref 57, .ref 58, .long m4.be, .ref 59, .long m4.up, .long m4.dn])) (by omega) (by omega))
  have K1 := K _ _ hf D5 k5
  rw [e3]
  simp only [q110_14, q110_15, q110_16, q110_17, q110_20, q110_21, q110_24, q110_25, q110_28, q110_29, q110_32, q110_33, gF0, gF1, gF2, gF3, gF4, gF5, gF6, gF7, gF8, gF9, gF10, gF11, gF12, gF13, gF14, gF15, gF16, gF17, gF18, gF19, pF0, pF1, pF2, pF3, pF4, pF5, pF6, pF7, pF8, pF9, pF10, pF11, pF12, pF13, pF14, pF15, pF16, pF17, pF18, pF19, aI_mk, aL_mk, aA_mk, sI_mk, sL_mk, sA_mk, isO_mk, rl_some, rl_none, true_and, and_true, true_or, or_true, wr_1, h4, oM, bI_01, z_01, o_01, bI_0]
  by_cases c1 : dtF U (mN m n) = 0
  · rw [bI_f (fun q => q.1 c1)] at K1
    simp only [c1, not_true, not_false_eq_true, if_true]
    exact K1
  · by_cases c2 : dtF U (mN (m.s_wr (nI r)) n) = 0
    · rw [bI_t ⟨c1, c2⟩] at K1
      simp only [c1, c2, not_true, not_false_eq_true, if_true, if_false]
      exact K1
    · rw [bI_f (fun q => c2 q.2)] at K1
      simp only [c1, c2, not_true, not_false_eq_true, if_true, if_false]
      exact K1
theorem vM.k {m2 : xM} (v : vM m.df n) (k : kM m m2) : vM m2.df n := by
  rw [k.1]
  exact v
theorem neM_k {m2 : xM} {r : Nat} (k : kM m m2) : neM m2 n U r ↔ neM m n U r := by
  have k3 : kM (m.s_wr (nI r)) (m2.s_wr (nI r)) := t_wr_k k
  have e1 : mN m2 n = mN m n := mN_k k.1 k.2.2.2.2.2.1 k.2.2.2.2.2.2
  have e3 : mN (m2.s_wr (nI r)) n = mN (m.s_wr (nI r)) n := mN_k k3.1 k3.2.2.2.2.2.1 k3.2.2.2.2.2.2
  unfold neM
  rw [e1, e3]
theorem l124 (hp : 4 + m.df 1 = nI U) (hU : U = 4 ∨ U = 5) (hw : m.wr = -1) (v : vM m.df n) : ∀ (k i : Nat) (w : xW) (m2 : xM) (a : Int32), i + k = n → isM w m2 → kM m m2 → (∀ w2 m2, fr w w2 51 60 → isM w2 m2 → kM m m2 → Q (some (.int (foldN (fun a i => a + bI (neM m n U i)) k i a))) w2) → Wp 124 b 4 [.ref 51, .int a, .int (nI i)] [] w Q := by
  have hn := v.2.1
  intro k
  induction k with
  | zero =>
    intro i w m2 a hi D k2 K
    have hc : nI n ≤ nI i := nI_le (by omega) (by omega)
    have h0 := D.1
    have h1 := D.2.1
    have v0 := (v.k k2).1
    simp only [q124_4, q124_5, q124_6, q124_9, q124_10, q124_11, q124_36, q124_37, gF0, gF1, gF2, gF3, gF4, gF5, gF6, gF7, gF8, gF9, gF10, gF11, gF12, gF13, gF14, gF15, gF16, gF17, gF18, gF19, pF0, pF1, pF2, pF3, pF4, pF5, pF6, pF7, pF8, pF9, pF10, pF11, pF12, pF13, pF14, pF15, pF16, pF17, pF18, pF19, aI_mk, aL_mk, aA_mk, sI_mk, sL_mk, sA_mk, isO_mk, rl_some, rl_none, true_and, and_true, true_or, or_true, wr_1, h0, oM, h1, p112, Int32.reduceToNatClampNeg, v0, if_pos hc]
    exact K w m2 fr.rf D k2
  | succ k ih =>
    intro i w m2 a hi D k2 K
    have hc : ¬ nI n ≤ nI i := by rw [nI_le' (by omega) (by omega)]; omega
    have h0 := D.1
    have h1 := D.2.1
    have v0 := (v.k k2).1
    have hp2 : 4 + m2.df 1 = nI U := by rw [k2.1, hp]
    simp only [q124_4]
    simp only [q124_5, q124_6, q124_9, q124_10, q124_11, q124_14, q124_15, q124_16, q124_17, gF0, gF1, gF2, gF3, gF4, gF5, gF6, gF7, gF8, gF9, gF10, gF11, gF12, gF13, gF14, gF15, gF16, gF17, gF18, gF19, pF0, pF1, pF2, pF3, pF4, pF5, pF6, pF7, pF8, pF9, pF10, pF11, pF12, pF13, pF14, pF15, pF16, pF17, pF18, pF19, aI_mk, aL_mk, aA_mk, sI_mk, sL_mk, sA_mk, isO_mk, rl_some, rl_none, true_and, and_true, true_or, or_true, wr_1, h0, oM, h1, p112, Int32.reduceToNatClampNeg, v0, if_neg hc]
    refine c110 D (v.k k2) hp2 hU (by rw [k2.2.2.2.2.2.1, hw]) (fun w3 m3 f3 D3 k3 => ?_)
    have e := neM_k (n := n) (U := U) (r := i) k2
    have r1 := ih (i + 1) w3 m3 (a + bI (neM m n U i)) (by omega) D3 (k2.tr k3) (fun w4 m4 f4 => K w4 m4 (f3.tr f4))
    simp only [q124_20, q124_23, q124_24, q124_27, q124_28, q124_29, q124_30, q124_33, gF0, gF1, gF2, gF3, gF4, gF5, gF6, gF7, gF8, gF9, gF10, gF11, gF12, gF13, gF14, gF15, gF16, gF17, gF18, gF19, pF0, pF1, pF2, pF3, pF4, pF5, pF6, pF7, pF8, pF9, pF10, pF11, pF12, pF13, pF14, pF15, pF16, pF17, pF18, pF19, aI_mk, aL_mk, aA_mk, sI_mk, sL_mk, sA_mk, isO_mk, rl_some, rl_none, true_and, and_true, true_or, or_true, wr_1, nI_1, bI_0]
    by_cases c : neM m n U i
    · rw [bI_t c] at r1
      rw [if_neg (fun q => q (e.mpr c))]
      exact r1
    · rw [bI_f c] at r1
      rw [if_pos (fun q => c (e.mp q))]
      exact r1
theorem c124 {w : xW} (D : isM w m) (v : vM m.df n) (hp : 4 + m.df 1 = nI U) (hU : U = 4 ∨ U = 5) (hw : m.wr = -1) (K : ∀ w2 m2, fr w w2 51 60 → isM w2 m2 → kM m m2 → Q (some (.int (foldN (fun a i => a + bI (neM m n U i)) n 0 0))) w2) : Wp 124 b 0 [.ref 51, x_no, x_no] [] w Q := by
  rw [q124_0, q124_1, q124_2, q124_3]
  exact l124 hp hU hw v n 0 w m 0 (by omega) D kM.rf K
theorem l132b {w : xW} (D : isM w m) (hp : 4 + m.df 1 = nI U) (hU : U ≤ 5) {i t : Nat} {mm tt : Int32} (hi : i < 12) (ht : m.df (28 + i) = nI t) (ht6 : t ≤ 6) : ∀ (c k : Nat) (a : Int64), k + c = t → (Wp 132 b 50 [.ref 51, .int mm, .int tt, .long a, x_no, .int (nI i), .int (nI k)] [] w Q ↔ Wp 132 b 91 [.ref 51, .int mm, .int tt, .long (foldN (fun a k => a + (sgF (lD m.df) (rD m.df) i mm).toInt64 * rM m U i k) c k a), x_no, .int (nI i), .int (nI t)] [] w Q) := by
  have h0 := D.1
  have h1 := D.2.1
  intro c
  induction c with
  | zero =>
    intro k a hk
    have hc : nI t ≤ nI k := nI_le (by omega) (by omega)
    simp only [q132_50, q132_52, q132_53, q132_56, q132_58, q132_60, q132_61, q132_62, gF0, gF1, gF2, gF3, gF4, gF5, gF6, gF7, gF8, gF9, gF10, gF11, gF12, gF13, gF14, gF15, gF16, gF17, gF18, gF19, pF0, pF1, pF2, pF3, pF4, pF5, pF6, pF7, pF8, pF9, pF10, pF11, pF12, pF13, pF14, pF15, pF16, pF17, pF18, pF19, aI_mk, aL_mk, aA_mk, sI_mk, sL_mk, sA_mk, isO_mk, rl_some, rl_none, true_and, and_true, true_or, or_true, wr_1, h0, oM, h1, ix28 hi, ht, if_pos hc]
    have e : k = t := by omega
    subst e
    exact Iff.rfl
  | succ c ih =>
    intro k a hk
    have hc : ¬ nI t ≤ nI k := by rw [nI_le' (by omega) (by omega)]; omega
    simp only [q132_50]
    simp only [q132_52, q132_53, q132_56, q132_58, q132_60, q132_61, q132_62, q132_65, q132_66, q132_67, q132_69, q132_70, q132_73, q132_74, q132_75, q132_77, q132_79, q132_82, q132_83, q132_84, q132_85, q132_88, gF0, gF1, gF2, gF3, gF4, gF5, gF6, gF7, gF8, gF9, gF10, gF11, gF12, gF13, gF14, gF15, gF16, gF17, gF18, gF19, pF0, pF1, pF2, pF3, pF4, pF5, pF6, pF7, pF8, pF9, pF10, pF11, pF12, pF13, pF14, pF15, pF16, pF17, pF18, pF19, aI_mk, aL_mk, aA_mk, sI_mk, sL_mk, sA_mk, isO_mk, rl_some, rl_none, true_and, and_true, true_or, or_true, wr_1, h0, oM, h1, ix28 hi, ht, if_neg hc, c101 D hi, c109 D hp hU hi (show k < 6 by omega), nI_1]
    exact ih (k + 1) _ (by omega)
theorem l132a {w : xW} (D : isM w m) (v : vM m.df n) (hp : 4 + m.df 1 = nI U) (hU : U ≤ 5) {mm tt : Int32} : ∀ (c i : Nat) (a : Int64) (x6 : Value), i + c = n → (∀ (x5 : Int32) (x6 : Value), Wp 132 b 97 [.ref 51, .int mm, .int tt, .long (foldN (blF (m.df 0) (lD m.df) (rD m.df) (tD m.df) (mD m.df) U m.be m.vf mm) c i a), x_no, .int x5, x6] [] w Q) → Wp 132 b 36 [.ref 51, .int mm, .int tt, .long a, x_no, .int (nI i), x6] [] w Q := by
  have h0 := D.1
  have h1 := D.2.1
  have hn := v.2.1
  have v0 := v.1
  intro c
  induction c with
  | zero =>
    intro i a x6 hi K
    have hc : nI n ≤ nI i := nI_le (by omega) (by omega)
    simp only [q132_36, q132_38, q132_39, q132_42, q132_43, q132_44, gF0, gF1, gF2, gF3, gF4, gF5, gF6, gF7, gF8, gF9, gF10, gF11, gF12, gF13, gF14, gF15, gF16, gF17, gF18, gF19, pF0, pF1, pF2, pF3, pF4, pF5, pF6, pF7, pF8, pF9, pF10, pF11, pF12, pF13, pF14, pF15, pF16, pF17, pF18, pF19, aI_mk, aL_mk, aA_mk, sI_mk, sL_mk, sA_mk, isO_mk, rl_some, rl_none, true_and, and_true, true_or, or_true, wr_1, h0, oM, h1, p112, Int32.reduceToNatClampNeg, v0, if_pos hc]
    exact K _ _
  | succ c ih =>
    intro i a x6 hi K
    have hc : ¬ nI n ≤ nI i := by rw [nI_le' (by omega) (by omega)]; omega
    obtain ⟨t1, t2⟩ := v.2.2 i (by omega)
    simp only [q132_36]
    simp only [q132_38, q132_39, q132_42, q132_43, q132_44, q132_47, q132_48, gF0, gF1, gF2, gF3, gF4, gF5, gF6, gF7, gF8, gF9, gF10, gF11, gF12, gF13, gF14, gF15, gF16, gF17, gF18, gF19, pF0, pF1, pF2, pF3, pF4, pF5, pF6, pF7, pF8, pF9, pF10, pF11, pF12, pF13, pF14, pF15, pF16, pF17, pF18, pF19, aI_mk, aL_mk, aA_mk, sI_mk, sL_mk, sA_mk, isO_mk, rl_some, rl_none, true_and, and_true, true_or, or_true, wr_1, h0, oM, h1, p112, Int32.reduceToNatClampNeg, v0, if_neg hc]
    rw [show (0 : Int32) = nI 0 from rfl, l132b D hp hU (show i < 12 by omega) t1 t2 (tkF (tD m.df) i) 0 a (Nat.zero_add _)]
    simp only [q132_91, q132_94, nI_1]
    exact ih (i + 1) _ _ (by omega) K
theorem l135b {w : xW} (D : isM w m) (hp : 4 + m.df 1 = nI U) (hU : U ≤ 5) {i t : Nat} {tt : Int32} (hi : i < 12) (ht : m.df (28 + i) = nI t) (ht6 : t ≤ 6) : ∀ (c k : Nat) (a : Int32 × Int64) (x7 : Value), k + c = t → (∀ x7, Wp 135 b 130 [.ref 51, .int tt, .long (foldN (woG (m.df 0) (lD m.df) (rD m.df) (mD m.df) U m.be m.vf i) c k a).2, x_no, .int (foldN (woG (m.df 0) (lD m.df) (rD m.df) (mD m.df) U m.be m.vf i) c k a).1, .int (nI i), .int (nI t), x7, x_no] [] w Q) → Wp 135 b 46 [.ref 51, .int tt, .long a.2, x_no, .int a.1, .int (nI i), .int (nI k), x7, x_no] [] w Q := by
  have h0 := D.1
  have h1 := D.2.1
  intro c
  induction c with
  | zero =>
    intro k a x7 hk K
    have hc : nI t ≤ nI k := nI_le (by omega) (by omega)
    simp only [q135_46, q135_48, q135_49, q135_52, q135_54, q135_56, q135_57, q135_58, gF0, gF1, gF2, gF3, gF4, gF5, gF6, gF7, gF8, gF9, gF10, gF11, gF12, gF13, gF14, gF15, gF16, gF17, gF18, gF19, pF0, pF1, pF2, pF3, pF4, pF5, pF6, pF7, pF8, pF9, pF10, pF11, pF12, pF13, pF14, pF15, pF16, pF17, pF18, pF19, aI_mk, aL_mk, aA_mk, sI_mk, sL_mk, sA_mk, isO_mk, rl_some, rl_none, true_and, and_true, true_or, or_true, wr_1, h0, oM, h1, ix28 hi, ht, if_pos hc]
    have e : k = t := by omega
    subst e
    exact K _
  | succ c ih =>
    intro k a x7 hk K
    have hc : ¬ nI t ≤ nI k := by rw [nI_le' (by omega) (by omega)]; omega
    have e6 : (6 : Int32) * nI i + nI k = nI (6 * i + k) := by
      rw [show (6 : Int32) = nI 6 from rfl, pk_mul, nI_add]
    have K2 : ∀ x7, Wp 135 b 130 [.ref 51, .int tt, .long (foldN (woG (m.df 0) (lD m.df) (rD m.df) (mD m.df) U m.be m.vf i) c (k + 1) (woG (m.df 0) (lD m.df) (rD m.df) (mD m.df) U m.be m.vf i a k)).2, x_no, .int (foldN (woG (m.df 0) (lD m.df) (rD m.df) (mD m.df) U m.be m.vf i) c (k + 1) (woG (m.df 0) (lD m.df) (rD m.df) (mD m.df) U m.be m.vf i a k)).1, .int (nI i), .int (nI t), x7, x_no] [] w Q := K
    have em : woG (m.df 0) (lD m.df) (rD m.df) (mD m.df) U m.be m.vf i a k = if lg_cmp (abL (rM m U i k)) a.2 ≤ 0 then a else (nI (6 * i + k), abL (rM m U i k)) := rfl
    rw [em] at K2
    have goal : Wp 135 b 86 [.ref 51, .int tt, .long a.2, x_no, .int a.1, .int (nI i), .int (nI k), .long (rM m U i k), x_no] [.long (abL (rM m U i k))] w Q := by
      by_cases q : lg_cmp (abL (rM m U i k)) a.2 ≤ 0
      · rw [if_pos q] at K2
        simp only [q135_86, q135_88, q135_90, q135_91, q135_92, q135_95, q135_97, q135_99, q135_100, q135_102, q135_103, q135_106, q135_108, q135_110, q135_112, q135_113, q135_114, q135_117, q135_119, q135_122, q135_123, q135_124, q135_127, gF0, gF1, gF2, gF3, gF4, gF5, gF6, gF7, gF8, gF9, gF10, gF11, gF12, gF13, gF14, gF15, gF16, gF17, gF18, gF19, pF0, pF1, pF2, pF3, pF4, pF5, pF6, pF7, pF8, pF9, pF10, pF11, pF12, pF13, pF14, pF15, pF16, pF17, pF18, pF19, aI_mk, aL_mk, aA_mk, sI_mk, sL_mk, sA_mk, isO_mk, rl_some, rl_none, true_and, and_true, true_or, or_true, wr_1, if_pos q, nI_1]
        exact ih (k + 1) a _ (by omega) K2
      · rw [if_neg q] at K2
        simp only [q135_86, q135_88, q135_90, q135_91, q135_92, q135_95, q135_97, q135_99, q135_100, q135_102, q135_103, q135_106, q135_108, q135_110, q135_112, q135_113, q135_114, q135_117, q135_119, q135_122, q135_123, q135_124, q135_127, gF0, gF1, gF2, gF3, gF4, gF5, gF6, gF7, gF8, gF9, gF10, gF11, gF12, gF13, gF14, gF15, gF16, gF17, gF18, gF19, pF0, pF1, pF2, pF3, pF4, pF5, pF6, pF7, pF8, pF9, pF10, pF11, pF12, pF13, pF14, pF15, pF16, pF17, pF18, pF19, aI_mk, aL_mk, aA_mk, sI_mk, sL_mk, sA_mk, isO_mk, rl_some, rl_none, true_and, and_true, true_or, or_true, wr_1, if_neg q, nI_1, e6]
        exact ih (k + 1) (nI (6 * i + k), abL (rM m U i k)) _ (by omega) K2
    simp only [q135_46]
    simp only [q135_48, q135_49, q135_52, q135_54, q135_56, q135_57, q135_58, q135_61, q135_62, q135_64, q135_66, q135_69, q135_71, q135_73, q135_74, q135_75, gF0, gF1, gF2, gF3, gF4, gF5, gF6, gF7, gF8, gF9, gF10, gF11, gF12, gF13, gF14, gF15, gF16, gF17, gF18, gF19, pF0, pF1, pF2, pF3, pF4, pF5, pF6, pF7, pF8, pF9, pF10, pF11, pF12, pF13, pF14, pF15, pF16, pF17, pF18, pF19, aI_mk, aL_mk, aA_mk, sI_mk, sL_mk, sA_mk, isO_mk, rl_some, rl_none, true_and, and_true, true_or, or_true, wr_1, h0, oM, h1, ix28 hi, ht, if_neg hc, c109 D hp hU hi (show k < 6 by omega)]
    by_cases q : 0 ≤ lg_cmp (rM m U i k) 0
    · rw [if_pos q]
      simp only [q135_84]
      rw [abL_ge q] at goal
      exact goal
    · rw [if_neg q]
      simp only [q135_78, q135_80, q135_81]
      rw [abL_lt q] at goal
      exact goal
theorem l135a {w : xW} (D : isM w m) (v : vM m.df n) (hp : 4 + m.df 1 = nI U) (hU : U ≤ 5) {tt : Int32} : ∀ (c i : Nat) (a : Int32 × Int64) (x6 x7 : Value), i + c = n → (∀ (x5 : Int32) (x6 x7 : Value), Wp 135 b 136 [.ref 51, .int tt, .long (foldN (woF (m.df 0) (lD m.df) (rD m.df) (tD m.df) (mD m.df) U m.be m.vf) c i a).2, x_no, .int (foldN (woF (m.df 0) (lD m.df) (rD m.df) (tD m.df) (mD m.df) U m.be m.vf) c i a).1, .int x5, x6, x7, x_no] [] w Q) → Wp 135 b 32 [.ref 51, .int tt, .long a.2, x_no, .int a.1, .int (nI i), x6, x7, x_no] [] w Q := by
  have h0 := D.1
  have h1 := D.2.1
  have hn := v.2.1
  have v0 := v.1
  intro c
  induction c with
  | zero =>
    intro i a x6 x7 hi K
    have hc : nI n ≤ nI i := nI_le (by omega) (by omega)
    simp only [q135_32, q135_34, q135_35, q135_38, q135_39, q135_40, gF0, gF1, gF2, gF3, gF4, gF5, gF6, gF7, gF8, gF9, gF10, gF11, gF12, gF13, gF14, gF15, gF16, gF17, gF18, gF19, pF0, pF1, pF2, pF3, pF4, pF5, pF6, pF7, pF8, pF9, pF10, pF11, pF12, pF13, pF14, pF15, pF16, pF17, pF18, pF19, aI_mk, aL_mk, aA_mk, sI_mk, sL_mk, sA_mk, isO_mk, rl_some, rl_none, true_and, and_true, true_or, or_true, wr_1, h0, oM, h1, p112, Int32.reduceToNatClampNeg, v0, if_pos hc]
    exact K _ _ _
  | succ c ih =>
    intro i a x6 x7 hi K
    have hc : ¬ nI n ≤ nI i := by rw [nI_le' (by omega) (by omega)]; omega
    obtain ⟨t1, t2⟩ := v.2.2 i (by omega)
    simp only [q135_32]
    simp only [q135_34, q135_35, q135_38, q135_39, q135_40, q135_43, q135_44, gF0, gF1, gF2, gF3, gF4, gF5, gF6, gF7, gF8, gF9, gF10, gF11, gF12, gF13, gF14, gF15, gF16, gF17, gF18, gF19, pF0, pF1, pF2, pF3, pF4, pF5, pF6, pF7, pF8, pF9, pF10, pF11, pF12, pF13, pF14, pF15, pF16, pF17, pF18, pF19, aI_mk, aL_mk, aA_mk, sI_mk, sL_mk, sA_mk, isO_mk, rl_some, rl_none, true_and, and_true, true_or, or_true, wr_1, h0, oM, h1, p112, Int32.reduceToNatClampNeg, v0, if_neg hc]
    refine l135b D hp hU (show i < 12 by omega) t1 t2 (tkF (tD m.df) i) 0 a _ (Nat.zero_add _) (fun x7 => ?_)
    simp only [q135_130, q135_133, nI_1]
    exact ih (i + 1) _ _ _ (by omega) K
end MR8
