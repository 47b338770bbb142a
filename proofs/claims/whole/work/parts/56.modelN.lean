section MRN
variable {b : Nat} {m : xM} {n U : Nat} {Q : Option Value → xW → Prop}
theorem c141 {w : xW} {r t : Int32} (D : isM w m) (v : vM m.df n) (rg : vR n (tD m.df) (mD m.df)) (hx : ∀ i j, i < n → j < n → (mnF (tD m.df) (mD m.df) i j).toInt ≠ -9223372036854775808) (K0 : ¬ ((¬ r < 0 ∧ r < nI n) ∧ 0 ≤ t ∧ t ≤ 1) → Q (some (.long (-2000000001))) w) (K1 : ∀ i, i < n → r = nI i → (0 ≤ t ∧ t ≤ 1) → swF n (lD m.df) (rD m.df) (tD m.df) i = -1 → Q (some (.long (-2000000004))) w) (K : ∀ i j w2 m2, i < n → j < n → r = nI i → (0 ≤ t ∧ t ≤ 1) → swF n (lD m.df) (rD m.df) (tD m.df) i = nI j → fr w w2 51 60 → isM w2 m2 → kM m m2 → Q (some (.long (prt t (mnF (tD m.df) (mD m.df) i j) (2 * mdF (tD m.df) i j)))) w2) : Wp 141 b 0 [.ref 51, .int r, .int t, x_no] [] w Q := by
  have h0 := D.1
  have h1 := D.2.1
  have hn := v.2.1
  have z1 : ¬ (1 : Int32) = 0 := by decide
  by_cases c1 : ¬ r < 0 ∧ r < nI n
  · by_cases c2 : 0 ≤ t ∧ t ≤ 1
    · obtain ⟨i, hi, rfl⟩ := row_of hn c1.1 c1.2
      rcases swF_or n (lD m.df) (rD m.df) (tD m.df) i with e | ⟨j, hj, e, g1, g2⟩
      · have KK := K1 i hi rfl c2 e
        simp only [q141_0, q141_1, q141_2, q141_5, q141_8, q141_9, q141_12, q141_15, q141_18, q141_19, q141_20, q141_21, q141_24, q141_25, q141_26, q141_27, q141_30, q141_33, q141_72, gF0, gF1, gF2, gF3, gF4, gF5, gF6, gF7, gF8, gF9, gF10, gF11, gF12, gF13, gF14, gF15, gF16, gF17, gF18, gF19, pF0, pF1, pF2, pF3, pF4, pF5, pF6, pF7, pF8, pF9, pF10, pF11, pF12, pF13, pF14, pF15, pF16, pF17, pF18, pF19, aI_mk, aL_mk, aA_mk, sI_mk, sL_mk, sA_mk, isO_mk, rl_some, rl_none, true_and, and_true, true_or, or_true, wr_1, c94 D v, bI_t c1, c97, bI_t c2, z1, if_false, not_false_eq_true, if_true, h0, oM, c119 D v hi, e, not_true]
        exact KK
      · have hm := nI_m1 (a := j) (by omega)
        have hcl : (nI j).toNatClampNeg = j := cl_nI (by omega)
        rw [hcl] at g2
        obtain ⟨t1, t2⟩ := v.2.2 i hi
        obtain ⟨t3, t4⟩ := v.2.2 j hj
        have t1' : m.df (28 + i) = nI (tkF (tD m.df) i) := t1
        have t3' : m.df (28 + j) = nI (tkF (tD m.df) j) := t3
        rw [t1, nI_z (by omega)] at g1
        rw [t3, nI_z (by omega)] at g2
        have dpos := (x_d1 (tkF (tD m.df) i) (by omega)).2 (tkF (tD m.df) j) (by omega) g1 g2
        have em : 2 * mdF (tD m.df) i j = 2 * (nI (tkF (tD m.df) i)).toInt64 * (nI (tkF (tD m.df) j)).toInt64 := by
          unfold mdF
          rw [t1, t3, Int64.mul_assoc]
        simp only [q141_0, q141_1, q141_2, q141_5, q141_8, q141_9, q141_12, q141_15, q141_18, q141_19, q141_20, q141_21, q141_24, q141_25, q141_26, q141_27, q141_30, q141_33, q141_36, q141_37, q141_38, q141_39, q141_40, q141_43, q141_46, q141_47, q141_50, q141_52, q141_53, q141_54, q141_55, q141_56, q141_57, q141_58, q141_61, q141_63, q141_64, q141_65, q141_66, q141_67, q141_68, q141_69, gF0, gF1, gF2, gF3, gF4, gF5, gF6, gF7, gF8, gF9, gF10, gF11, gF12, gF13, gF14, gF15, gF16, gF17, gF18, gF19, pF0, pF1, pF2, pF3, pF4, pF5, pF6, pF7, pF8, pF9, pF10, pF11, pF12, pF13, pF14, pF15, pF16, pF17, pF18, pF19, aI_mk, aL_mk, aA_mk, sI_mk, sL_mk, sA_mk, isO_mk, rl_some, rl_none, true_and, and_true, true_or, or_true, wr_1, c94 D v, bI_t c1, c97, bI_t c2, z1, if_false, not_false_eq_true, if_true, h0, oM, h1, c119 D v hi, e, hm, c139 D v rg hi hj, ix28 (show i < 12 by omega), ix28 (show j < 12 by omega), t1', t3']
        refine c100 D dpos (hx i j hi hj) (fun w2 u z f2 D2 => ?_)
        have KK := K i j w2 _ hi hj rfl c2 e f2 D2 kM.rf.up.dn
        rw [em] at KK
        simp only [q141_72, gF0, gF1, gF2, gF3, gF4, gF5, gF6, gF7, gF8, gF9, gF10, gF11, gF12, gF13, gF14, gF15, gF16, gF17, gF18, gF19, pF0, pF1, pF2, pF3, pF4, pF5, pF6, pF7, pF8, pF9, pF10, pF11, pF12, pF13, pF14, pF15, pF16, pF17, pF18, pF19, aI_mk, aL_mk, aA_mk, sI_mk, sL_mk, sA_mk, isO_mk, rl_some, rl_none, true_and, and_true, true_or, or_true, wr_1]
        exact KK
    · have := K0 (fun q => c2 q.2)
      simp only [q141_0, q141_1, q141_2, q141_5, q141_8, q141_9, q141_12, q141_15, q141_18, gF0, gF1, gF2, gF3, gF4, gF5, gF6, gF7, gF8, gF9, gF10, gF11, gF12, gF13, gF14, gF15, gF16, gF17, gF18, gF19, pF0, pF1, pF2, pF3, pF4, pF5, pF6, pF7, pF8, pF9, pF10, pF11, pF12, pF13, pF14, pF15, pF16, pF17, pF18, pF19, aI_mk, aL_mk, aA_mk, sI_mk, sL_mk, sA_mk, isO_mk, rl_some, rl_none, true_and, and_true, true_or, or_true, wr_1, c94 D v, bI_t c1, c97, bI_f c2, z1, if_false, not_true, h0, oM]
      exact this
  · have := K0 (fun q => c1 q.1)
    simp only [q141_0, q141_1, q141_2, q141_5, q141_8, q141_9, q141_12, q141_15, q141_18, gF0, gF1, gF2, gF3, gF4, gF5, gF6, gF7, gF8, gF9, gF10, gF11, gF12, gF13, gF14, gF15, gF16, gF17, gF18, gF19, pF0, pF1, pF2, pF3, pF4, pF5, pF6, pF7, pF8, pF9, pF10, pF11, pF12, pF13, pF14, pF15, pF16, pF17, pF18, pF19, aI_mk, aL_mk, aA_mk, sI_mk, sL_mk, sA_mk, isO_mk, rl_some, rl_none, true_and, and_true, true_or, or_true, wr_1, c94 D v, bI_f c1, if_true, h0, oM]
    exact this
/-- the reference with a reading left out -/
abbrev m1o (m : xM) (i j : Nat) : xM := (m.s_wr (nI i)).s_wd (nI j)
theorem c136 {w : xW} {r k a t : Int32} (D : isM w m) (v : vM m.df n) (hp : 4 + m.df 1 = nI U) (hU : U = 4 ∨ U = 5) (hw : m.wr = -1) (hwd : m.wd = -1) (hd : ∀ i j, i < n → j < tkF (tD m.df) i → ¬ dtF U (mN (m1o m i j) n) = 0 → 0 < (dtF U (mN (m1o m i j) n)).toInt) (hx : ∀ i j z, i < n → j < tkF (tD m.df) i → z < U → (dtF U (enF (nI z) (mN (m1o m i j) n) (mS (m1o m i j) n))).toInt ≠ -9223372036854775808) (K0 : ¬ (((¬ r < 0 ∧ r < nI n) ∧ ¬ k < 0 ∧ k < tD m.df r.toNatClampNeg) ∧ (1 ≤ a ∧ a ≤ 4) ∧ 0 ≤ t ∧ t ≤ 1) → Q (some (.long (-2000000001))) w) (K1 : ∀ i j w2 m2, i < n → j < tkF (tD m.df) i → r = nI i → k = nI j → ((1 ≤ a ∧ a ≤ 4) ∧ 0 ≤ t ∧ t ≤ 1) → dtF U (mN (m1o m i j) n) = 0 → fr w w2 51 60 → isM w2 m2 → kM m m2 → Q (some (.long (-2000000002))) w2) (K : ∀ i j z w2 m2, i < n → j < tkF (tD m.df) i → r = nI i → k = nI j → z < 4 → a = nI (z + 1) → (0 ≤ t ∧ t ≤ 1) → ¬ dtF U (mN (m1o m i j) n) = 0 → fr w w2 51 60 → isM w2 m2 → kM m m2 → Q (some (.long (prt t (dtF U (enF (nI z) (mN (m1o m i j) n) (mS (m1o m i j) n))) (dtF U (mN (m1o m i j) n))))) w2) : Wp 136 b 0 [.ref 51, .int r, .int k, .int a, .int t, x_no] [] w Q := by
  have z1 : ¬ (1 : Int32) = 0 := by decide
  have h0 := D.1
  have hn := v.2.1
  by_cases c1 : (¬ r < 0 ∧ r < nI n) ∧ ¬ k < 0 ∧ k < tD m.df r.toNatClampNeg
  · by_cases c3 : 1 ≤ a ∧ a ≤ 4
    · by_cases c2 : 0 ≤ t ∧ t ≤ 1
      · obtain ⟨i, hi, er⟩ := row_of hn c1.1.1 c1.1.2
        have hcl : (nI i).toNatClampNeg = i := cl_nI (by omega)
        obtain ⟨t1, t2⟩ := v.2.2 i hi
        have c1' := c1.2
        rw [er, hcl, t1] at c1'
        obtain ⟨j, hj, ek⟩ := row_of (n := tkF (tD m.df) i) (by omega) c1'.1 c1'.2
        have Ld := hd i j hi hj
        have Lx := fun z => hx i j z hi hj
        have L1 := fun w2 m2 => K1 i j w2 m2 hi hj er ek ⟨c3, c2⟩
        have LK := fun z w2 m2 => K i j z w2 m2 hi hj er ek
        subst er
        subst ek
        have D1 := (D.o_wr (nI i)).o_wd (nI j)
        simp only [s_wr_df, s_wr_wf, s_wr_st, s_wr_af, s_wr_cf, s_wr_ty, s_wr_pa, s_wr_le, s_wr_ri, s_wr_re, s_wr_rs, s_wr_nf, s_wr_wr, s_wr_wd, s_wr_mf, s_wr_vf, s_wr_be, s_wr_fa, s_wr_up, s_wr_dn] at D1
        have em : (m1o m i j).df = m.df := by rw [s_wd_df, s_wr_df]
        have f1 : fr w (wr (wr w 51 (.inr (6, [.ref 52, .ref 53, .int (nI m.st), .ref 54, .ref 55, .int (nI m.ty), .int m.pa, .int m.le, .int m.ri, .int m.re, .int m.rs, .ref 56, .int (nI i), .int m.wd, .ref 57, .ref 58, .long m.be, .ref 59, .long m.up, .long m.dn]))) 51 (.inr (6, [.ref 52, .ref 53, .int (nI m.st), .ref 54, .ref 55, .int (nI m.ty), .int m.pa, .int m.le, .int m.ri, .int m.re, .int m.rs, .ref 56, .int (nI i), .int (nI j), .ref 57, .ref 58, .long m.be, .ref 59, .long m.up, .long m.dn]))) 51 60 := (fr.wr (by omega) (by omega)).tr (fr.wr (by omega) (by omega))
        have G : Wp 136 b 40 [.ref 51, .int (nI i), .int (nI j), .int a, .int t, x_no] [] (wr (wr w 51 (.inr (6, [.ref 52, .ref 53, .int (nI m.st), .ref 54, .ref 55, .int (nI m.ty), .int m.pa, .int m.le, .int m.ri, .int m.re, .int m.rs, .ref 56, .int (nI i), .int m.wd, .ref 57, .ref 58, .long m.be, .ref 59, .long m.up, .long m.dn]))) 51 (.inr (6, [.ref 52, .ref 53, .int (nI m.st), .ref 54, .ref 55, .int (nI m.ty), .int m.pa, .int m.le, .int m.ri, .int m.re, .int m.rs, .ref 56, .int (nI i), .int (nI j), .ref 57, .ref 58, .long m.be, .ref 59, .long m.up, .long m.dn]))) Q := by
          have h3 := D1.1
          simp only [q136_40, q136_41, gF0, gF1, gF2, gF3, gF4, gF5, gF6, gF7, gF8, gF9, gF10, gF11, gF12, gF13, gF14, gF15, gF16, gF17, gF18, gF19, pF0, pF1, pF2, pF3, pF4, pF5, pF6, pF7, pF8, pF9, pF10, pF11, pF12, pF13, pF14, pF15, pF16, pF17, pF18, pF19, aI_mk, aL_mk, aA_mk, sI_mk, sL_mk, sA_mk, isO_mk, rl_some, rl_none, true_and, and_true, true_or, or_true, wr_1, h3, oM]
          refine c108 D1 (by rw [em]; exact v) (by rw [em]; exact hp) hU (fun w2 m2 f2 D2 k2 e1 e2 e3 => ?_)
          have h2 := D2.1
          have D4 := (D2.o_wr (-1)).o_wd (-1)
          simp only [s_wr_df, s_wr_wf, s_wr_st, s_wr_af, s_wr_cf, s_wr_ty, s_wr_pa, s_wr_le, s_wr_ri, s_wr_re, s_wr_rs, s_wr_nf, s_wr_wr, s_wr_wd, s_wr_mf, s_wr_vf, s_wr_be, s_wr_fa, s_wr_up, s_wr_dn] at D4
          obtain ⟨q1, q2, q3, q4, q5, q6, q7⟩ := k2
          simp only [s_wr_df, s_wr_wf, s_wr_st, s_wr_af, s_wr_cf, s_wr_ty, s_wr_pa, s_wr_le, s_wr_ri, s_wr_re, s_wr_rs, s_wr_nf, s_wr_wr, s_wr_wd, s_wr_mf, s_wr_vf, s_wr_be, s_wr_fa, s_wr_up, s_wr_dn, s_wd_df, s_wd_wf, s_wd_st, s_wd_af, s_wd_cf, s_wd_ty, s_wd_pa, s_wd_le, s_wd_ri, s_wd_re, s_wd_rs, s_wd_nf, s_wd_wr, s_wd_wd, s_wd_mf, s_wd_vf, s_wd_be, s_wd_fa, s_wd_up, s_wd_dn] at q1 q2 q3 q4 q5 q6 q7
          have k4 : kM m ((m2.s_wr (-1)).s_wd (-1)) := by
            unfold kM
            simp only [s_wr_df, s_wr_wf, s_wr_st, s_wr_af, s_wr_cf, s_wr_ty, s_wr_pa, s_wr_le, s_wr_ri, s_wr_re, s_wr_rs, s_wr_nf, s_wr_wr, s_wr_wd, s_wr_mf, s_wr_vf, s_wr_be, s_wr_fa, s_wr_up, s_wr_dn, s_wd_df, s_wd_wf, s_wd_st, s_wd_af, s_wd_cf, s_wd_ty, s_wd_pa, s_wd_le, s_wd_ri, s_wd_re, s_wd_rs, s_wd_nf, s_wd_wr, s_wd_wd, s_wd_mf, s_wd_vf, s_wd_be, s_wd_fa, s_wd_up, s_wd_dn]
            exact ⟨q1, q2, q3, q4, q5, hw.symm, hwd.symm⟩
          have h8 := D4.2.2.2.2.2.2.2.1
          simp only [s_wr_df, s_wr_wf, s_wr_st, s_wr_af, s_wr_cf, s_wr_ty, s_wr_pa, s_wr_le, s_wr_ri, s_wr_re, s_wr_rs, s_wr_nf, s_wr_wr, s_wr_wd, s_wr_mf, s_wr_vf, s_wr_be, s_wr_fa, s_wr_up, s_wr_dn, s_wd_df, s_wd_wf, s_wd_st, s_wd_af, s_wd_cf, s_wd_ty, s_wd_pa, s_wd_le, s_wd_ri, s_wd_re, s_wd_rs, s_wd_nf, s_wd_wr, s_wd_wd, s_wd_mf, s_wd_vf, s_wd_be, s_wd_fa, s_wd_up, s_wd_dn] at h8
          have f4 := (f1.tr f2).tr ((fr.wr (w := w2) (a := 51) (c := .inr (6, [.ref 52, .ref 53, .int (nI m2.st), .ref 54, .ref 55, .int (nI m2.ty), .int m2.pa, .int m2.le, .int m2.ri, .int m2.re, .int m2.rs, .ref 56, .int (-1), .int m2.wd, .ref 57, .ref 58, .long m2.be, .ref 59, .long m2.up, .long m2.dn])) (by omega) (by omega)).tr (fr.wr (a := 51) (c := .inr (6, [.ref 52, .ref 53, .int (nI m2.st), .ref 54, .ref 55, .int (nI m2.ty), .int m2.pa, .int m2.le, .int m2.ri, .int m2.re, .int m2.rs, .ref 56, .int (-1), .int (-1), .ref 57, .ref 58, .long m2.be, .ref 59, .long m2.up, .long m2.dn])) (by omega) (by omega)))
          by_cases rr : dtF U (mN (m1o m i j) n) = 0
          · have KK := L1 _ _ rr f4 D4 k4
            simp only [q136_44, q136_46, q136_47, q136_48, q136_51, q136_52, q136_53, q136_56, q136_58, q136_82, q136_85, gF0, gF1, gF2, gF3, gF4, gF5, gF6, gF7, gF8, gF9, gF10, gF11, gF12, gF13, gF14, gF15, gF16, gF17, gF18, gF19, pF0, pF1, pF2, pF3, pF4, pF5, pF6, pF7, pF8, pF9, pF10, pF11, pF12, pF13, pF14, pF15, pF16, pF17, pF18, pF19, aI_mk, aL_mk, aA_mk, sI_mk, sL_mk, sA_mk, isO_mk, rl_some, rl_none, true_and, and_true, true_or, or_true, wr_1, bI_f (fun q : ¬ dtF U (mN (m1o m i j) n) = 0 => q rr), if_true, h2, oM, rd_s]
            exact KK
          · obtain ⟨i4, hi4, ei⟩ := row_of (r := a) (n := 5) (by omega) (by
              have h4 := Int32.le_iff_toInt_le.mp c3.1
              rw [Int32.lt_iff_toInt_lt, show (0 : Int32).toInt = 0 from rfl]
              rw [show (1 : Int32).toInt = 1 from rfl] at h4
              omega) (by
              have : (nI 5 : Int32) = 5 := rfl
              rw [this]
              have h4 := Int32.le_iff_toInt_le.mp c3.2
              rw [Int32.lt_iff_toInt_lt]
              rw [show (4 : Int32).toInt = 4 from rfl] at h4
              rw [show (5 : Int32).toInt = 5 from rfl]
              omega)
            obtain ⟨z, rfl⟩ : ∃ z, i4 = z + 1 := ⟨i4 - 1, by
              have : i4 ≠ 0 := fun q => by
                rw [ei, q] at c3
                exact absurd c3.1 (by decide)
              omega⟩
            have ej : nI (z + 1) - 1 = nI z := nI_pred z
            have hxj : x_pl (nI z) 5 := x_pl_nI (by omega) (by omega)
            have hclj : (nI z).toNatClampNeg = z := cl_nI (by omega)
            have ev : m2.vf z = dtF U (enF (nI z) (mN (m1o m i j) n) (mS (m1o m i j) n)) := e2 rr z (by omega)
            subst ei
            have R : Wp 136 b 61 [.ref 51, .int (nI i), .int (nI j), .int (nI (z + 1)), .int t, .int 1] [] (wr (wr w2 51 (.inr (6, [.ref 52, .ref 53, .int (nI m2.st), .ref 54, .ref 55, .int (nI m2.ty), .int m2.pa, .int m2.le, .int m2.ri, .int m2.re, .int m2.rs, .ref 56, .int (-1), .int m2.wd, .ref 57, .ref 58, .long m2.be, .ref 59, .long m2.up, .long m2.dn]))) 51 (.inr (6, [.ref 52, .ref 53, .int (nI m2.st), .ref 54, .ref 55, .int (nI m2.ty), .int m2.pa, .int m2.le, .int m2.ri, .int m2.re, .int m2.rs, .ref 56, .int (-1), .int (-1), .ref 57, .ref 58, .long m2.be, .ref 59, .long m2.up, .long m2.dn]))) Q := by
              generalize wr (wr w2 51 _) 51 _ = w5 at D4 f4 h8 ⊢
              have h5 := D4.1
              simp only [oM, s_wr_df, s_wr_wf, s_wr_st, s_wr_af, s_wr_cf, s_wr_ty, s_wr_pa, s_wr_le, s_wr_ri, s_wr_re, s_wr_rs, s_wr_nf, s_wr_wr, s_wr_wd, s_wr_mf, s_wr_vf, s_wr_be, s_wr_fa, s_wr_up, s_wr_dn, s_wd_df, s_wd_wf, s_wd_st, s_wd_af, s_wd_cf, s_wd_ty, s_wd_pa, s_wd_le, s_wd_ri, s_wd_re, s_wd_rs, s_wd_nf, s_wd_wr, s_wd_wd, s_wd_mf, s_wd_vf, s_wd_be, s_wd_fa, s_wd_up, s_wd_dn] at h5
              simp only [q136_61, q136_62, q136_63, q136_66, q136_67, q136_68, q136_69, q136_70, q136_71, q136_74, q136_76, gF0, gF1, gF2, gF3, gF4, gF5, gF6, gF7, gF8, gF9, gF10, gF11, gF12, gF13, gF14, gF15, gF16, gF17, gF18, gF19, pF0, pF1, pF2, pF3, pF4, pF5, pF6, pF7, pF8, pF9, pF10, pF11, pF12, pF13, pF14, pF15, pF16, pF17, pF18, pF19, aI_mk, aL_mk, aA_mk, sI_mk, sL_mk, sA_mk, isO_mk, rl_some, rl_none, true_and, and_true, true_or, or_true, wr_1, h5, h8, ej, hxj, hclj, ev, e1]
              refine c100 D4 (Ld rr) (Lx z (by omega)) (fun w6 u y f6 D6 => ?_)
              have KK := LK z w6 _ (by omega) rfl c2 rr (f4.tr f6) D6 k4.up.dn
              simp only [q136_79, q136_82, q136_85, gF0, gF1, gF2, gF3, gF4, gF5, gF6, gF7, gF8, gF9, gF10, gF11, gF12, gF13, gF14, gF15, gF16, gF17, gF18, gF19, pF0, pF1, pF2, pF3, pF4, pF5, pF6, pF7, pF8, pF9, pF10, pF11, pF12, pF13, pF14, pF15, pF16, pF17, pF18, pF19, aI_mk, aL_mk, aA_mk, sI_mk, sL_mk, sA_mk, isO_mk, rl_some, rl_none, true_and, and_true, true_or, or_true, wr_1]
              exact KK
            simp only [q136_44, q136_46, q136_47, q136_48, q136_51, q136_52, q136_53, q136_56, q136_58, gF0, gF1, gF2, gF3, gF4, gF5, gF6, gF7, gF8, gF9, gF10, gF11, gF12, gF13, gF14, gF15, gF16, gF17, gF18, gF19, pF0, pF1, pF2, pF3, pF4, pF5, pF6, pF7, pF8, pF9, pF10, pF11, pF12, pF13, pF14, pF15, pF16, pF17, pF18, pF19, aI_mk, aL_mk, aA_mk, sI_mk, sL_mk, sA_mk, isO_mk, rl_some, rl_none, true_and, and_true, true_or, or_true, wr_1, bI_t rr, z1, if_false, h2, oM, rd_s]
            exact R
        simp only [q136_0, q136_1, q136_2, q136_3, q136_6, q136_9, q136_10, q136_11, q136_12, q136_15, q136_18, q136_20, q136_23, q136_26, q136_29, q136_30, q136_31, q136_32, q136_35, q136_36, q136_37, gF0, gF1, gF2, gF3, gF4, gF5, gF6, gF7, gF8, gF9, gF10, gF11, gF12, gF13, gF14, gF15, gF16, gF17, gF18, gF19, pF0, pF1, pF2, pF3, pF4, pF5, pF6, pF7, pF8, pF9, pF10, pF11, pF12, pF13, pF14, pF15, pF16, pF17, pF18, pF19, aI_mk, aL_mk, aA_mk, sI_mk, sL_mk, sA_mk, isO_mk, rl_some, rl_none, true_and, and_true, true_or, or_true, wr_1, c95 D v, bI_t c1, c93, bI_t c3, c97, bI_t c2, z1, not_false_eq_true, if_true, if_false, h0, oM, rd_s]
        exact G
      · have := K0 (fun q => c2 q.2.2)
        simp only [q136_0, q136_1, q136_2, q136_3, q136_6, q136_9, q136_10, q136_11, q136_12, q136_15, q136_18, q136_20, q136_23, q136_26, q136_29, gF0, gF1, gF2, gF3, gF4, gF5, gF6, gF7, gF8, gF9, gF10, gF11, gF12, gF13, gF14, gF15, gF16, gF17, gF18, gF19, pF0, pF1, pF2, pF3, pF4, pF5, pF6, pF7, pF8, pF9, pF10, pF11, pF12, pF13, pF14, pF15, pF16, pF17, pF18, pF19, aI_mk, aL_mk, aA_mk, sI_mk, sL_mk, sA_mk, isO_mk, rl_some, rl_none, true_and, and_true, true_or, or_true, wr_1, c95 D v, bI_t c1, c93, bI_t c3, c97, bI_f c2, z1, not_true, if_false, h0, oM]
        exact this
    · have := K0 (fun q => c3 q.2.1)
      simp only [q136_0, q136_1, q136_2, q136_3, q136_6, q136_9, q136_10, q136_11, q136_12, q136_15, q136_18, q136_20, q136_23, q136_26, q136_29, gF0, gF1, gF2, gF3, gF4, gF5, gF6, gF7, gF8, gF9, gF10, gF11, gF12, gF13, gF14, gF15, gF16, gF17, gF18, gF19, pF0, pF1, pF2, pF3, pF4, pF5, pF6, pF7, pF8, pF9, pF10, pF11, pF12, pF13, pF14, pF15, pF16, pF17, pF18, pF19, aI_mk, aL_mk, aA_mk, sI_mk, sL_mk, sA_mk, isO_mk, rl_some, rl_none, true_and, and_true, true_or, or_true, wr_1, c95 D v, bI_t c1, c93, bI_f c3, z1, if_true, if_false, h0, oM]
      exact this
  · have := K0 (fun q => c1 q.1)
    simp only [q136_0, q136_1, q136_2, q136_3, q136_6, q136_9, q136_10, q136_11, q136_12, q136_15, q136_18, q136_20, q136_23, q136_26, q136_29, gF0, gF1, gF2, gF3, gF4, gF5, gF6, gF7, gF8, gF9, gF10, gF11, gF12, gF13, gF14, gF15, gF16, gF17, gF18, gF19, pF0, pF1, pF2, pF3, pF4, pF5, pF6, pF7, pF8, pF9, pF10, pF11, pF12, pF13, pF14, pF15, pF16, pF17, pF18, pF19, aI_mk, aL_mk, aA_mk, sI_mk, sL_mk, sA_mk, isO_mk, rl_some, rl_none, true_and, and_true, true_or, or_true, wr_1, c95 D v, bI_f c1, if_true, h0, oM]
    exact this
end MRN
