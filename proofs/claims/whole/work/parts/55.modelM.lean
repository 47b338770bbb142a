section MRM
variable {b : Nat} {m : xM} {n U : Nat} {Q : Option Value → xW → Prop}
theorem blF_k {s : Int32} {lf rf tf mf : Nat → Int32} {U : Nat} {det : Int64} {V V' : Nat → Int64} {mm : Int32} (h : ∀ a, a < U → V a = V' a) (k i : Nat) (a : Int64) : foldN (blF s lf rf tf mf U det V mm) k i a = foldN (blF s lf rf tf mf U det V' mm) k i a := by
  refine foldN_congr k i a (fun a r _ _ => ?_)
  unfold blF
  refine foldN_congr _ 0 a (fun a j _ _ => ?_)
  have : rsF s lf rf mf U det V r j = rsF s lf rf mf U det V' r j := by
    unfold rsF
    exact foldN_congr U 0 _ (fun a z _ hz => by rw [h z (by omega)])
  rw [this]
theorem woF_k {s : Int32} {lf rf tf mf : Nat → Int32} {U : Nat} {det : Int64} {V V' : Nat → Int64} (h : ∀ a, a < U → V a = V' a) (k i : Nat) (a : Int32 × Int64) : foldN (woF s lf rf tf mf U det V) k i a = foldN (woF s lf rf tf mf U det V') k i a := by
  refine foldN_congr k i a (fun a r _ _ => ?_)
  unfold woF
  refine foldN_congr _ 0 a (fun a j _ _ => ?_)
  have : rsF s lf rf mf U det V r j = rsF s lf rf mf U det V' r j := by
    unfold rsF
    exact foldN_congr U 0 _ (fun a z _ hz => by rw [h z (by omega)])
  unfold woG
  rw [this]
theorem c132 {w : xW} {a t : Int32} (D : isM w m) (v : vM m.df n) (hp : 4 + m.df 1 = nI U) (hU : U = 4 ∨ U = 5) (hd : ¬ dtF U (mN m n) = 0 → 0 < (dtF U (mN m n)).toInt) {V : Nat → Int64} (hV : ∀ a, a < U → V a = dtF U (enF (nI a) (mN m n) (mS m n))) (hx : (foldN (blF (m.df 0) (lD m.df) (rD m.df) (tD m.df) (mD m.df) U (dtF U (mN m n)) V a) n 0 0).toInt ≠ -9223372036854775808) (K0 : ¬ ((0 ≤ a ∧ a ≤ 4) ∧ 0 ≤ t ∧ t ≤ 1) → Q (some (.long (-2000000001))) w) (K1 : ∀ w2 m2, ((0 ≤ a ∧ a ≤ 4) ∧ 0 ≤ t ∧ t ≤ 1) → dtF U (mN m n) = 0 → fr w w2 51 60 → isM w2 m2 → kM m m2 → Q (some (.long (-2000000002))) w2) (K : ∀ w2 m2, ((0 ≤ a ∧ a ≤ 4) ∧ 0 ≤ t ∧ t ≤ 1) → ¬ dtF U (mN m n) = 0 → fr w w2 51 60 → isM w2 m2 → kM m m2 → Q (some (.long (prt t (foldN (blF (m.df 0) (lD m.df) (rD m.df) (tD m.df) (mD m.df) U (dtF U (mN m n)) V a) n 0 0) (dtF U (mN m n))))) w2) : Wp 132 b 0 [.ref 51, .int a, .int t, x_no, x_no, x_no, x_no] [] w Q := by
  have z1 : ¬ (1 : Int32) = 0 := by decide
  have h0 := D.1
  by_cases c : 0 ≤ a ∧ a ≤ 4
  · by_cases c2 : 0 ≤ t ∧ t ≤ 1
    · simp only [q132_0, q132_1, q132_2, q132_3, q132_6, q132_9, q132_10, q132_13, q132_16, q132_19, q132_20, q132_21, gF0, gF1, gF2, gF3, gF4, gF5, gF6, gF7, gF8, gF9, gF10, gF11, gF12, gF13, gF14, gF15, gF16, gF17, gF18, gF19, pF0, pF1, pF2, pF3, pF4, pF5, pF6, pF7, pF8, pF9, pF10, pF11, pF12, pF13, pF14, pF15, pF16, pF17, pF18, pF19, aI_mk, aL_mk, aA_mk, sI_mk, sL_mk, sA_mk, isO_mk, rl_some, rl_none, true_and, and_true, true_or, or_true, wr_1, c93, bI_t c, c97, bI_t c2, z1, not_false_eq_true, if_true, if_false, h0, oM]
      refine c108 D v hp hU (fun w2 m2 f2 D2 k2 e1 e2 e3 => ?_)
      have h2 := D2.1
      by_cases r : dtF U (mN m n) = 0
      · have KK := K1 w2 m2 ⟨c, c2⟩ r f2 D2 k2
        simp only [q132_24, q132_27, q132_30, gF0, gF1, gF2, gF3, gF4, gF5, gF6, gF7, gF8, gF9, gF10, gF11, gF12, gF13, gF14, gF15, gF16, gF17, gF18, gF19, pF0, pF1, pF2, pF3, pF4, pF5, pF6, pF7, pF8, pF9, pF10, pF11, pF12, pF13, pF14, pF15, pF16, pF17, pF18, pF19, aI_mk, aL_mk, aA_mk, sI_mk, sL_mk, sA_mk, isO_mk, rl_some, rl_none, true_and, and_true, true_or, or_true, wr_1, bI_f (fun q : ¬ dtF U (mN m n) = 0 => q r), not_true, if_false]
        exact KK
      · have hp2 : 4 + m2.df 1 = nI U := by rw [k2.1, hp]
        have ef : foldN (blF (m2.df 0) (lD m2.df) (rD m2.df) (tD m2.df) (mD m2.df) U m2.be m2.vf a) n 0 0 = foldN (blF (m.df 0) (lD m.df) (rD m.df) (tD m.df) (mD m.df) U (dtF U (mN m n)) V a) n 0 0 := by
          rw [k2.1, e1]
          exact blF_k (fun z hz => by rw [e2 r z hz, hV z hz]) n 0 0
        simp only [q132_24, q132_27, q132_30, q132_31, q132_32, q132_33, q132_34, gF0, gF1, gF2, gF3, gF4, gF5, gF6, gF7, gF8, gF9, gF10, gF11, gF12, gF13, gF14, gF15, gF16, gF17, gF18, gF19, pF0, pF1, pF2, pF3, pF4, pF5, pF6, pF7, pF8, pF9, pF10, pF11, pF12, pF13, pF14, pF15, pF16, pF17, pF18, pF19, aI_mk, aL_mk, aA_mk, sI_mk, sL_mk, sA_mk, isO_mk, rl_some, rl_none, true_and, and_true, true_or, or_true, wr_1, bI_t r, z1, not_false_eq_true, if_true]
        refine l132a D2 (v.k k2) hp2 (by omega) n 0 0 _ (by omega) (fun x5 x6 => ?_)
        rw [ef]
        simp only [q132_97, q132_98, q132_99, q132_100, q132_103, q132_104, gF0, gF1, gF2, gF3, gF4, gF5, gF6, gF7, gF8, gF9, gF10, gF11, gF12, gF13, gF14, gF15, gF16, gF17, gF18, gF19, pF0, pF1, pF2, pF3, pF4, pF5, pF6, pF7, pF8, pF9, pF10, pF11, pF12, pF13, pF14, pF15, pF16, pF17, pF18, pF19, aI_mk, aL_mk, aA_mk, sI_mk, sL_mk, sA_mk, isO_mk, rl_some, rl_none, true_and, and_true, true_or, or_true, wr_1, h2, oM, e1]
        refine c100 D2 (hd r) hx (fun w3 u z f3 D3 => ?_)
        have KK := K w3 _ ⟨c, c2⟩ r (f2.tr f3) D3 k2.up.dn
        simp only [q132_107, gF0, gF1, gF2, gF3, gF4, gF5, gF6, gF7, gF8, gF9, gF10, gF11, gF12, gF13, gF14, gF15, gF16, gF17, gF18, gF19, pF0, pF1, pF2, pF3, pF4, pF5, pF6, pF7, pF8, pF9, pF10, pF11, pF12, pF13, pF14, pF15, pF16, pF17, pF18, pF19, aI_mk, aL_mk, aA_mk, sI_mk, sL_mk, sA_mk, isO_mk, rl_some, rl_none, true_and, and_true, true_or, or_true, wr_1]
        exact KK
    · have := K0 (fun q => c2 q.2)
      simp only [q132_0, q132_1, q132_2, q132_3, q132_6, q132_9, q132_10, q132_13, q132_16, q132_19, gF0, gF1, gF2, gF3, gF4, gF5, gF6, gF7, gF8, gF9, gF10, gF11, gF12, gF13, gF14, gF15, gF16, gF17, gF18, gF19, pF0, pF1, pF2, pF3, pF4, pF5, pF6, pF7, pF8, pF9, pF10, pF11, pF12, pF13, pF14, pF15, pF16, pF17, pF18, pF19, aI_mk, aL_mk, aA_mk, sI_mk, sL_mk, sA_mk, isO_mk, rl_some, rl_none, true_and, and_true, true_or, or_true, wr_1, c93, bI_t c, c97, bI_f c2, z1, not_true, if_false]
      exact this
  · have := K0 (fun q => c q.1)
    simp only [q132_0, q132_1, q132_2, q132_3, q132_6, q132_9, q132_10, q132_13, q132_16, q132_19, gF0, gF1, gF2, gF3, gF4, gF5, gF6, gF7, gF8, gF9, gF10, gF11, gF12, gF13, gF14, gF15, gF16, gF17, gF18, gF19, pF0, pF1, pF2, pF3, pF4, pF5, pF6, pF7, pF8, pF9, pF10, pF11, pF12, pF13, pF14, pF15, pF16, pF17, pF18, pF19, aI_mk, aL_mk, aA_mk, sI_mk, sL_mk, sA_mk, isO_mk, rl_some, rl_none, true_and, and_true, true_or, or_true, wr_1, c93, bI_f c, if_true]
    exact this
theorem c135 {w : xW} {t : Int32} (D : isM w m) (v : vM m.df n) (hp : 4 + m.df 1 = nI U) (hU : U = 4 ∨ U = 5) {V : Nat → Int64} (hV : ∀ a, a < U → V a = dtF U (enF (nI a) (mN m n) (mS m n))) (K0 : ¬ (0 ≤ t ∧ t ≤ 1) → Q (some (.int (-2000000001))) w) (K1 : ∀ w2 m2, (0 ≤ t ∧ t ≤ 1) → dtF U (mN m n) = 0 → fr w w2 51 60 → isM w2 m2 → kM m m2 → Q (some (.int (-2000000002))) w2) (K : ∀ w2 m2 y, (0 ≤ t ∧ t ≤ 1) → ¬ dtF U (mN m n) = 0 → fr w w2 51 60 → isM w2 m2 → kM m m2 → y = (foldN (woF (m.df 0) (lD m.df) (rD m.df) (tD m.df) (mD m.df) U (dtF U (mN m n)) V) n 0 (0, -1)).1 → Q (some (.int (if t = 0 then y / 6 else y - y / 6 * 6))) w2) : Wp 135 b 0 [.ref 51, .int t, x_no, x_no, x_no, x_no, x_no, x_no, x_no] [] w Q := by
  have z1 : ¬ (1 : Int32) = 0 := by decide
  have z6 : ¬ (6 : Int32) = 0 := by decide
  have h0 := D.1
  by_cases c : 0 ≤ t ∧ t ≤ 1
  · simp only [q135_0, q135_1, q135_2, q135_3, q135_6, q135_9, q135_11, q135_12, q135_13, gF0, gF1, gF2, gF3, gF4, gF5, gF6, gF7, gF8, gF9, gF10, gF11, gF12, gF13, gF14, gF15, gF16, gF17, gF18, gF19, pF0, pF1, pF2, pF3, pF4, pF5, pF6, pF7, pF8, pF9, pF10, pF11, pF12, pF13, pF14, pF15, pF16, pF17, pF18, pF19, aI_mk, aL_mk, aA_mk, sI_mk, sL_mk, sA_mk, isO_mk, rl_some, rl_none, true_and, and_true, true_or, or_true, wr_1, c93, bI_t c, z1, not_false_eq_true, if_true, h0, oM]
    refine c108 D v hp hU (fun w2 m2 f2 D2 k2 e1 e2 e3 => ?_)
    by_cases r : dtF U (mN m n) = 0
    · have KK := K1 w2 m2 c r f2 D2 k2
      simp only [q135_16, q135_19, q135_21, gF0, gF1, gF2, gF3, gF4, gF5, gF6, gF7, gF8, gF9, gF10, gF11, gF12, gF13, gF14, gF15, gF16, gF17, gF18, gF19, pF0, pF1, pF2, pF3, pF4, pF5, pF6, pF7, pF8, pF9, pF10, pF11, pF12, pF13, pF14, pF15, pF16, pF17, pF18, pF19, aI_mk, aL_mk, aA_mk, sI_mk, sL_mk, sA_mk, isO_mk, rl_some, rl_none, true_and, and_true, true_or, or_true, wr_1, bI_f (fun q : ¬ dtF U (mN m n) = 0 => q r), not_true, if_false]
      exact KK
    · have hp2 : 4 + m2.df 1 = nI U := by rw [k2.1, hp]
      have ef : foldN (woF (m2.df 0) (lD m2.df) (rD m2.df) (tD m2.df) (mD m2.df) U m2.be m2.vf) n 0 (0, -1) = foldN (woF (m.df 0) (lD m.df) (rD m.df) (tD m.df) (mD m.df) U (dtF U (mN m n)) V) n 0 (0, -1) := by
        rw [k2.1, e1]
        exact woF_k (fun z hz => by rw [e2 r z hz, hV z hz]) n 0 (0, -1)
      have KK := K w2 m2 _ c r f2 D2 k2 rfl
      simp only [q135_16, q135_19, q135_21, q135_22, q135_25, q135_26, q135_27, q135_29, q135_30, gF0, gF1, gF2, gF3, gF4, gF5, gF6, gF7, gF8, gF9, gF10, gF11, gF12, gF13, gF14, gF15, gF16, gF17, gF18, gF19, pF0, pF1, pF2, pF3, pF4, pF5, pF6, pF7, pF8, pF9, pF10, pF11, pF12, pF13, pF14, pF15, pF16, pF17, pF18, pF19, aI_mk, aL_mk, aA_mk, sI_mk, sL_mk, sA_mk, isO_mk, rl_some, rl_none, true_and, and_true, true_or, or_true, wr_1, bI_t r, z1, not_false_eq_true, if_true]
      refine l135a D2 (v.k k2) hp2 (by omega) n 0 (0, -1) _ _ (by omega) (fun x5 x6 x7 => ?_)
      rw [ef]
      generalize (foldN (woF (m.df 0) (lD m.df) (rD m.df) (tD m.df) (mD m.df) U (dtF U (mN m n)) V) n 0 (0, -1)) = y at KK ⊢
      by_cases t0 : t = 0
      · rw [if_pos t0] at KK
        simp only [q135_136, q135_137, q135_140, q135_142, q135_144, q135_145, q135_148, q135_150, q135_152, q135_153, gF0, gF1, gF2, gF3, gF4, gF5, gF6, gF7, gF8, gF9, gF10, gF11, gF12, gF13, gF14, gF15, gF16, gF17, gF18, gF19, pF0, pF1, pF2, pF3, pF4, pF5, pF6, pF7, pF8, pF9, pF10, pF11, pF12, pF13, pF14, pF15, pF16, pF17, pF18, pF19, aI_mk, aL_mk, aA_mk, sI_mk, sL_mk, sA_mk, isO_mk, rl_some, rl_none, true_and, and_true, true_or, or_true, wr_1, t0, not_true, if_false, z6, not_false_eq_true]
        exact KK
      · rw [if_neg t0] at KK
        simp only [q135_136, q135_137, q135_140, q135_142, q135_144, q135_145, q135_148, q135_150, q135_152, q135_153, gF0, gF1, gF2, gF3, gF4, gF5, gF6, gF7, gF8, gF9, gF10, gF11, gF12, gF13, gF14, gF15, gF16, gF17, gF18, gF19, pF0, pF1, pF2, pF3, pF4, pF5, pF6, pF7, pF8, pF9, pF10, pF11, pF12, pF13, pF14, pF15, pF16, pF17, pF18, pF19, aI_mk, aL_mk, aA_mk, sI_mk, sL_mk, sA_mk, isO_mk, rl_some, rl_none, true_and, and_true, true_or, or_true, wr_1, t0, not_false_eq_true, if_true, z6]
        exact KK
  · have := K0 c
    simp only [q135_0, q135_1, q135_2, q135_3, q135_6, q135_9, q135_11, gF0, gF1, gF2, gF3, gF4, gF5, gF6, gF7, gF8, gF9, gF10, gF11, gF12, gF13, gF14, gF15, gF16, gF17, gF18, gF19, pF0, pF1, pF2, pF3, pF4, pF5, pF6, pF7, pF8, pF9, pF10, pF11, pF12, pF13, pF14, pF15, pF16, pF17, pF18, pF19, aI_mk, aL_mk, aA_mk, sI_mk, sL_mk, sA_mk, isO_mk, rl_some, rl_none, true_and, and_true, true_or, or_true, wr_1, c93, bI_f c, not_true, if_false]
    exact this
end MRM
