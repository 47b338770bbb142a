theorem t_wsw {m : xM} {f g : Nat → Int32} {a c : Nat} : (((m.s_wf f).s_st a).s_wf g).s_st c = (m.s_wf g).s_st c := id rfl
theorem t_dsd {m : xM} {f g : Nat → Int32} {a : Nat} : ((m.s_st a).s_df f).s_df g = (m.s_st a).s_df g := id rfl
section MRA
variable {b : Nat} {m : xM} {n U : Nat} {Q : Option Value → xW → Prop}
theorem l98 {m1 : xM} {w1 : xW} {x1 : Value} (hs : m1.st ≤ 4) (D : isM w1 m1) (K : ∀ w2 wf2, fr w1 w2 51 60 → isM w2 ((m1.s_wf wf2).s_st (m1.st + 1)) → (∀ z, wf2 z = if 112 * m1.st ≤ z ∧ z < 112 * m1.st + 112 then m1.df (z - 112 * m1.st) else m1.wf z) → Q none w2) : Wp 98 b 48 [.ref 51, x1] [] w1 Q := by
  rw [← t_wf_self (m := m1)] at D
  simp only [q98_48, q98_49]
  refine l98b hs 112 0 w1 _ (by omega) D (fun w2 f2 e2 D2 E => ?_)
  have h0 := D2.wf0.1
  have D3 := D2.o_st (m1.st + 1)
  have hf := e2.tr (fr.wr (w := w2) (a := 51) (c := .inr (6, [.ref 52, .ref 53, .int (nI (m1.st + 1)), .ref 54, .ref 55, .int (nI (m1.s_wf f2).ty), .int (m1.s_wf f2).pa, .int (m1.s_wf f2).le, .int (m1.s_wf f2).ri, .int (m1.s_wf f2).re, .int (m1.s_wf f2).rs, .ref 56, .int (m1.s_wf f2).wr, .int (m1.s_wf f2).wd, .ref 57, .ref 58, .long (m1.s_wf f2).be, .ref 59, .long (m1.s_wf f2).up, .long (m1.s_wf f2).dn])) (by omega) (by omega))
  have K1 := K _ f2 hf D3 (fun z => by rw [E z, Nat.add_zero])
  simp only [s_wf_df, s_wf_wf, s_wf_st, s_wf_af, s_wf_cf, s_wf_ty, s_wf_pa, s_wf_le, s_wf_ri, s_wf_re, s_wf_rs, s_wf_nf, s_wf_wr, s_wf_wd, s_wf_mf, s_wf_vf, s_wf_be, s_wf_fa, s_wf_up, s_wf_dn] at K1
  simp only [q98_82, q98_83, q98_84, q98_87, q98_88, q98_89, q98_92, gF0, gF1, gF2, gF3, gF4, gF5, gF6, gF7, gF8, gF9, gF10, gF11, gF12, gF13, gF14, gF15, gF16, gF17, gF18, gF19, pF0, pF1, pF2, pF3, pF4, pF5, pF6, pF7, pF8, pF9, pF10, pF11, pF12, pF13, pF14, pF15, pF16, pF17, pF18, pF19, aI_mk, aL_mk, aA_mk, sI_mk, sL_mk, sA_mk, isO_mk, rl_some, rl_none, true_and, and_true, true_or, or_true, wr_1, h0, oM, nI_1]
  exact K1
theorem c98 {w : xW} (D : isM w m) (hs : m.st ≤ 5) (K : ∀ w2 wf2 st2, fr w w2 51 60 → isM w2 ((m.s_wf wf2).s_st st2) → st2 = (if m.st = 5 then 5 else m.st + 1) → (∀ j, j < st2 → ∀ q, q < 112 → wf2 (112 * j + q) = if j + 1 = st2 then m.df q else if m.st = 5 then m.wf (112 * (j + 1) + q) else m.wf (112 * j + q)) → Q none w2) : Wp 98 b 0 [.ref 51, x_no] [] w Q := by
  have h0 := D.1
  have e5 : nI m.st = 5 ↔ m.st = 5 := nI_eq' (b := 5) (by omega) (by omega)
  simp only [q98_0, q98_1, q98_4, q98_5, q98_8, q98_9, gF0, gF1, gF2, gF3, gF4, gF5, gF6, gF7, gF8, gF9, gF10, gF11, gF12, gF13, gF14, gF15, gF16, gF17, gF18, gF19, pF0, pF1, pF2, pF3, pF4, pF5, pF6, pF7, pF8, pF9, pF10, pF11, pF12, pF13, pF14, pF15, pF16, pF17, pF18, pF19, aI_mk, aL_mk, aA_mk, sI_mk, sL_mk, sA_mk, isO_mk, rl_some, rl_none, true_and, and_true, true_or, or_true, wr_1, h0, oM, e5]
  by_cases c : m.st = 5
  · rw [if_neg (fun q => q c)]
    have D0 := D
    rw [← t_wf_self (m := m)] at D0
    refine l98a 448 0 w _ (by omega) D0 (fun w2 f2 e2 D2 E => ?_)
    have h2 := D2.wf0.1
    have em : nI m.st - 1 = nI 4 := by rw [c]; decide
    have D3 := D2.o_st 4
    have hf := e2.tr (fr.wr (w := w2) (a := 51) (c := .inr (6, [.ref 52, .ref 53, .int (nI 4), .ref 54, .ref 55, .int (nI (m.s_wf f2).ty), .int (m.s_wf f2).pa, .int (m.s_wf f2).le, .int (m.s_wf f2).ri, .int (m.s_wf f2).re, .int (m.s_wf f2).rs, .ref 56, .int (m.s_wf f2).wr, .int (m.s_wf f2).wd, .ref 57, .ref 58, .long (m.s_wf f2).be, .ref 59, .long (m.s_wf f2).up, .long (m.s_wf f2).dn])) (by omega) (by omega))
    have e4 : ((m.s_wf f2).s_st 4).st = 4 := by rw [s_st_st]
    have R : Wp 98 b 48 [.ref 51, .int (nI 448)] [] (wr w2 51 (.inr (6, [.ref 52, .ref 53, .int (nI 4), .ref 54, .ref 55, .int (nI (m.s_wf f2).ty), .int (m.s_wf f2).pa, .int (m.s_wf f2).le, .int (m.s_wf f2).ri, .int (m.s_wf f2).re, .int (m.s_wf f2).rs, .ref 56, .int (m.s_wf f2).wr, .int (m.s_wf f2).wd, .ref 57, .ref 58, .long (m.s_wf f2).be, .ref 59, .long (m.s_wf f2).up, .long (m.s_wf f2).dn]))) Q := by
      refine l98 (by rw [e4]; omega) D3 (fun w4 f4 f5 D5 E5 => ?_)
      rw [e4] at D5 E5
      rw [t_wsw] at D5
      simp only [s_st_df, s_wf_df, s_st_wf, s_wf_wf] at E5
      refine K w4 f4 5 (hf.tr f5) D5 (by rw [if_pos c]) (fun j hj q hq => ?_)
      rw [E5]
      by_cases c4 : j = 4
      · subst c4
        rw [if_pos (by omega), if_pos rfl]
        exact congrArg m.df (by omega)
      · rw [if_neg (by omega), if_neg (by omega), if_pos c, E, if_pos (by omega)]
        exact congrArg m.wf (by omega)
    simp only [s_wf_df, s_wf_wf, s_wf_st, s_wf_af, s_wf_cf, s_wf_ty, s_wf_pa, s_wf_le, s_wf_ri, s_wf_re, s_wf_rs, s_wf_nf, s_wf_wr, s_wf_wd, s_wf_mf, s_wf_vf, s_wf_be, s_wf_fa, s_wf_up, s_wf_dn] at R
    simp only [q98_38, q98_39, q98_40, q98_43, q98_44, q98_45, gF0, gF1, gF2, gF3, gF4, gF5, gF6, gF7, gF8, gF9, gF10, gF11, gF12, gF13, gF14, gF15, gF16, gF17, gF18, gF19, pF0, pF1, pF2, pF3, pF4, pF5, pF6, pF7, pF8, pF9, pF10, pF11, pF12, pF13, pF14, pF15, pF16, pF17, pF18, pF19, aI_mk, aL_mk, aA_mk, sI_mk, sL_mk, sA_mk, isO_mk, rl_some, rl_none, true_and, and_true, true_or, or_true, wr_1, h2, oM, em]
    exact R
  · rw [if_pos c]
    refine l98 (by omega) D (fun w2 f2 e2 D2 E => K w2 f2 (m.st + 1) e2 D2 (by rw [if_neg c]) (fun j hj q hq => ?_))
    rw [E]
    by_cases c4 : j + 1 = m.st + 1
    · rw [if_pos c4, if_pos (by omega)]
      exact congrArg m.df (by omega)
    · rw [if_neg c4, if_neg (by omega), if_neg c]
theorem l128 (hs : m.st ≤ 4) : ∀ (k i : Nat) (w : xW) (f : Nat → Int32), i + k = 112 → isM w (m.s_df f) → (∀ w2 f2, fr w w2 51 60 → isM w2 (m.s_df f2) → (∀ z, f2 z = if i ≤ z ∧ z < 112 then m.wf (112 * m.st + z) else f z) → Wp 128 b 54 [.ref 51, .int (nI 112)] [] w2 Q) → Wp 128 b 22 [.ref 51, .int (nI i)] [] w Q := by
  intro k
  induction k with
  | zero =>
    intro i w f hk D K
    have e : i = 112 := by omega
    subst e
    have hc : (112 : Int32) ≤ nI 112 := by decide
    simp only [q128_22, q128_23, q128_25, gF0, gF1, gF2, gF3, gF4, gF5, gF6, gF7, gF8, gF9, gF10, gF11, gF12, gF13, gF14, gF15, gF16, gF17, gF18, gF19, pF0, pF1, pF2, pF3, pF4, pF5, pF6, pF7, pF8, pF9, pF10, pF11, pF12, pF13, pF14, pF15, pF16, pF17, pF18, pF19, aI_mk, aL_mk, aA_mk, sI_mk, sL_mk, sA_mk, isO_mk, rl_some, rl_none, true_and, and_true, true_or, or_true, wr_1, if_pos hc]
    exact K w f fr.rf D (fun z => by rw [if_neg (by omega)])
  | succ k ih =>
    intro i w f hk D K
    have hc : ¬ (112 : Int32) ≤ nI i := by rw [show (112 : Int32) = nI 112 from rfl, nI_le' (by omega) (by omega)]; omega
    obtain ⟨h0, h1, h2, h3⟩ := D.df0
    have hx : x_pl (nI i) 112 := x_pl_nI (by omega) (by omega)
    have hcl : (nI i).toNatClampNeg = i := cl_nI (by omega)
    simp only [q128_22]
    simp only [q128_23, q128_25, q128_28, q128_29, q128_32, q128_33, q128_34, q128_37, q128_39, q128_40, q128_43, q128_44, q128_45, q128_46, q128_47, q128_48, q128_51, gF0, gF1, gF2, gF3, gF4, gF5, gF6, gF7, gF8, gF9, gF10, gF11, gF12, gF13, gF14, gF15, gF16, gF17, gF18, gF19, pF0, pF1, pF2, pF3, pF4, pF5, pF6, pF7, pF8, pF9, pF10, pF11, pF12, pF13, pF14, pF15, pF16, pF17, pF18, pF19, aI_mk, aL_mk, aA_mk, sI_mk, sL_mk, sA_mk, isO_mk, rl_some, rl_none, true_and, and_true, true_or, or_true, wr_1, h0, oM, h1, h2, if_neg hc, hx, hcl, ixw hs (show i < 112 by omega), nI_1]
    refine ih (i + 1) _ _ (by omega) D.df1 (fun w2 f2 e2 D2 E => K w2 f2 ((fr.wr (by omega) (by omega)).tr e2) D2 (fun z => ?_))
    rw [E z]
    by_cases c1 : z = i
    · rw [if_neg (by omega), if_pos (by omega), c1, pk_us]
    · rw [pk_un c1]
      by_cases c2 : i + 1 ≤ z ∧ z < 112
      · rw [if_pos c2, if_pos (by omega)]
      · rw [if_neg c2, if_neg (by omega)]
theorem c128 {w : xW} (D : isM w m) (hs : m.st ≤ 5) (K0 : m.st = 0 → Q (some (.int (-2000000002))) w) (K : ∀ st w2 f2, m.st = st + 1 → fr w w2 51 60 → isM w2 ((m.s_st st).s_df f2) → (∀ z, z < 112 → f2 z = m.wf (112 * st + z)) → Q (some (.int (nI st))) w2) : Wp 128 b 0 [.ref 51, x_no] [] w Q := by
  have h0 := D.1
  have e0 : nI m.st = 0 ↔ m.st = 0 := nI_eq' (b := 0) (by omega) (by omega)
  by_cases c : m.st = 0
  · simp only [q128_0, q128_1, q128_4, q128_7, q128_9, gF0, gF1, gF2, gF3, gF4, gF5, gF6, gF7, gF8, gF9, gF10, gF11, gF12, gF13, gF14, gF15, gF16, gF17, gF18, gF19, pF0, pF1, pF2, pF3, pF4, pF5, pF6, pF7, pF8, pF9, pF10, pF11, pF12, pF13, pF14, pF15, pF16, pF17, pF18, pF19, aI_mk, aL_mk, aA_mk, sI_mk, sL_mk, sA_mk, isO_mk, rl_some, rl_none, true_and, and_true, true_or, or_true, wr_1, h0, oM, e0, c, not_true, if_false]
    exact K0 c
  · obtain ⟨st, hst⟩ : ∃ st, m.st = st + 1 := ⟨m.st - 1, by omega⟩
    have em : nI m.st - 1 = nI st := by rw [hst]; exact nI_pred st
    have D3 := D.o_st st
    rw [← t_df_self (m := m.s_st st)] at D3
    have est : (m.s_st st).st = st := s_st_st
    have hf := fr.wr (w := w) (a := 51) (lo := 51) (hi := 60) (c := .inr (6, [.ref 52, .ref 53, .int (nI st), .ref 54, .ref 55, .int (nI m.ty), .int m.pa, .int m.le, .int m.ri, .int m.re, .int m.rs, .ref 56, .int m.wr, .int m.wd, .ref 57, .ref 58, .long m.be, .ref 59, .long m.up, .long m.dn])) (by omega) (by omega)
    simp only [q128_0, q128_1, q128_4, q128_7, q128_9, q128_10, q128_11, q128_12, q128_15, q128_16, q128_17, q128_20, q128_21, gF0, gF1, gF2, gF3, gF4, gF5, gF6, gF7, gF8, gF9, gF10, gF11, gF12, gF13, gF14, gF15, gF16, gF17, gF18, gF19, pF0, pF1, pF2, pF3, pF4, pF5, pF6, pF7, pF8, pF9, pF10, pF11, pF12, pF13, pF14, pF15, pF16, pF17, pF18, pF19, aI_mk, aL_mk, aA_mk, sI_mk, sL_mk, sA_mk, isO_mk, rl_some, rl_none, true_and, and_true, true_or, or_true, wr_1, h0, oM, e0, c, not_false_eq_true, if_true, em]
    refine l128 (m := m.s_st st) (by rw [est]; omega) 112 0 _ _ (by omega) D3 (fun w2 f2 e2 D2 E => ?_)
    have h2 := D2.df0.1
    have K1 := K st w2 f2 hst (hf.tr e2) D2 (fun z hz => by rw [E z, if_pos (by omega), s_st_wf, est])
    simp only [q128_54, q128_55, q128_58, gF0, gF1, gF2, gF3, gF4, gF5, gF6, gF7, gF8, gF9, gF10, gF11, gF12, gF13, gF14, gF15, gF16, gF17, gF18, gF19, pF0, pF1, pF2, pF3, pF4, pF5, pF6, pF7, pF8, pF9, pF10, pF11, pF12, pF13, pF14, pF15, pF16, pF17, pF18, pF19, aI_mk, aL_mk, aA_mk, sI_mk, sL_mk, sA_mk, isO_mk, rl_some, rl_none, true_and, and_true, true_or, or_true, wr_1, h2, oM, est]
    exact K1
end MRA
