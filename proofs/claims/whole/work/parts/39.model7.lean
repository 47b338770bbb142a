/-- what lasts is kept -/
def kM (m m2 : xM) : Prop := m2.df = m.df ∧ m2.wf = m.wf ∧ m2.st = m.st ∧ m2.cf = m.cf ∧ m2.ty = m.ty ∧ m2.wr = m.wr ∧ m2.wd = m.wd
theorem kM.rf {m : xM} : kM m m := ⟨rfl, rfl, rfl, rfl, rfl, rfl, rfl⟩
theorem kM.tr {a c d : xM} (h1 : kM a c) (h2 : kM c d) : kM a d := ⟨h2.1.trans h1.1, h2.2.1.trans h1.2.1, h2.2.2.1.trans h1.2.2.1, h2.2.2.2.1.trans h1.2.2.2.1, h2.2.2.2.2.1.trans h1.2.2.2.2.1, h2.2.2.2.2.2.1.trans h1.2.2.2.2.2.1, h2.2.2.2.2.2.2.trans h1.2.2.2.2.2.2⟩
theorem kM.af {m m2 : xM} {x : Nat → Int32} (h : kM m m2) : kM m (m2.s_af x) := by
  unfold kM at *
  simp only [s_af_df, s_af_wf, s_af_st, s_af_cf, s_af_ty, s_af_wr, s_af_wd]
  exact h
theorem kM.pa {m m2 : xM} {x : Int32} (h : kM m m2) : kM m (m2.s_pa x) := by
  unfold kM at *
  simp only [s_pa_df, s_pa_wf, s_pa_st, s_pa_cf, s_pa_ty, s_pa_wr, s_pa_wd]
  exact h
theorem kM.le {m m2 : xM} {x : Int32} (h : kM m m2) : kM m (m2.s_le x) := by
  unfold kM at *
  simp only [s_le_df, s_le_wf, s_le_st, s_le_cf, s_le_ty, s_le_wr, s_le_wd]
  exact h
theorem kM.ri {m m2 : xM} {x : Int32} (h : kM m m2) : kM m (m2.s_ri x) := by
  unfold kM at *
  simp only [s_ri_df, s_ri_wf, s_ri_st, s_ri_cf, s_ri_ty, s_ri_wr, s_ri_wd]
  exact h
theorem kM.re {m m2 : xM} {x : Int32} (h : kM m m2) : kM m (m2.s_re x) := by
  unfold kM at *
  simp only [s_re_df, s_re_wf, s_re_st, s_re_cf, s_re_ty, s_re_wr, s_re_wd]
  exact h
theorem kM.rs {m m2 : xM} {x : Int32} (h : kM m m2) : kM m (m2.s_rs x) := by
  unfold kM at *
  simp only [s_rs_df, s_rs_wf, s_rs_st, s_rs_cf, s_rs_ty, s_rs_wr, s_rs_wd]
  exact h
theorem kM.nf {m m2 : xM} {x : Nat → Int64} (h : kM m m2) : kM m (m2.s_nf x) := by
  unfold kM at *
  simp only [s_nf_df, s_nf_wf, s_nf_st, s_nf_cf, s_nf_ty, s_nf_wr, s_nf_wd]
  exact h
theorem kM.mf {m m2 : xM} {x : Nat → Int64} (h : kM m m2) : kM m (m2.s_mf x) := by
  unfold kM at *
  simp only [s_mf_df, s_mf_wf, s_mf_st, s_mf_cf, s_mf_ty, s_mf_wr, s_mf_wd]
  exact h
theorem kM.vf {m m2 : xM} {x : Nat → Int64} (h : kM m m2) : kM m (m2.s_vf x) := by
  unfold kM at *
  simp only [s_vf_df, s_vf_wf, s_vf_st, s_vf_cf, s_vf_ty, s_vf_wr, s_vf_wd]
  exact h
theorem kM.be {m m2 : xM} {x : Int64} (h : kM m m2) : kM m (m2.s_be x) := by
  unfold kM at *
  simp only [s_be_df, s_be_wf, s_be_st, s_be_cf, s_be_ty, s_be_wr, s_be_wd]
  exact h
theorem kM.fa {m m2 : xM} {x : Nat → Int32} (h : kM m m2) : kM m (m2.s_fa x) := by
  unfold kM at *
  simp only [s_fa_df, s_fa_wf, s_fa_st, s_fa_cf, s_fa_ty, s_fa_wr, s_fa_wd]
  exact h
theorem kM.up {m m2 : xM} {x : Int64} (h : kM m m2) : kM m (m2.s_up x) := by
  unfold kM at *
  simp only [s_up_df, s_up_wf, s_up_st, s_up_cf, s_up_ty, s_up_wr, s_up_wd]
  exact h
theorem kM.dn {m m2 : xM} {x : Int64} (h : kM m m2) : kM m (m2.s_dn x) := by
  unfold kM at *
  simp only [s_dn_df, s_dn_wf, s_dn_st, s_dn_cf, s_dn_ty, s_dn_wr, s_dn_wd]
  exact h
theorem t_nf_self {m : xM} : m.s_nf m.nf = m := id rfl
theorem isM.o_be {w : xW} {m : xM} (D : isM w m) (x : Int64) : isM (wr w 51 (.inr (6, [.ref 52, .ref 53, .int (nI m.st), .ref 54, .ref 55, .int (nI m.ty), .int m.pa, .int m.le, .int m.ri, .int m.re, .int m.rs, .ref 56, .int m.wr, .int m.wd, .ref 57, .ref 58, .long x, .ref 59, .long m.up, .long m.dn]))) (m.s_be x) := by
  have D1 : isM (wr w 51 (oM (m.s_be x))) (m.s_be x) := D.s51 (by simp only [s_be_df, s_be_wf, s_be_st, s_be_af, s_be_cf, s_be_ty, s_be_pa, s_be_le, s_be_ri, s_be_re, s_be_rs, s_be_nf, s_be_wr, s_be_wd, s_be_mf, s_be_vf, s_be_be, s_be_fa, s_be_up, s_be_dn])
  simp only [oM, s_be_df, s_be_wf, s_be_st, s_be_af, s_be_cf, s_be_ty, s_be_pa, s_be_le, s_be_ri, s_be_re, s_be_rs, s_be_nf, s_be_wr, s_be_wd, s_be_mf, s_be_vf, s_be_be, s_be_fa, s_be_up, s_be_dn] at D1
  exact D1
theorem isM.o_wr {w : xW} {m : xM} (D : isM w m) (x : Int32) : isM (wr w 51 (.inr (6, [.ref 52, .ref 53, .int (nI m.st), .ref 54, .ref 55, .int (nI m.ty), .int m.pa, .int m.le, .int m.ri, .int m.re, .int m.rs, .ref 56, .int x, .int m.wd, .ref 57, .ref 58, .long m.be, .ref 59, .long m.up, .long m.dn]))) (m.s_wr x) := by
  have D1 : isM (wr w 51 (oM (m.s_wr x))) (m.s_wr x) := D.s51 (by simp only [s_wr_df, s_wr_wf, s_wr_st, s_wr_af, s_wr_cf, s_wr_ty, s_wr_pa, s_wr_le, s_wr_ri, s_wr_re, s_wr_rs, s_wr_nf, s_wr_wr, s_wr_wd, s_wr_mf, s_wr_vf, s_wr_be, s_wr_fa, s_wr_up, s_wr_dn])
  simp only [oM, s_wr_df, s_wr_wf, s_wr_st, s_wr_af, s_wr_cf, s_wr_ty, s_wr_pa, s_wr_le, s_wr_ri, s_wr_re, s_wr_rs, s_wr_nf, s_wr_wr, s_wr_wd, s_wr_mf, s_wr_vf, s_wr_be, s_wr_fa, s_wr_up, s_wr_dn] at D1
  exact D1
theorem isM.o_wd {w : xW} {m : xM} (D : isM w m) (x : Int32) : isM (wr w 51 (.inr (6, [.ref 52, .ref 53, .int (nI m.st), .ref 54, .ref 55, .int (nI m.ty), .int m.pa, .int m.le, .int m.ri, .int m.re, .int m.rs, .ref 56, .int m.wr, .int x, .ref 57, .ref 58, .long m.be, .ref 59, .long m.up, .long m.dn]))) (m.s_wd x) := by
  have D1 : isM (wr w 51 (oM (m.s_wd x))) (m.s_wd x) := D.s51 (by simp only [s_wd_df, s_wd_wf, s_wd_st, s_wd_af, s_wd_cf, s_wd_ty, s_wd_pa, s_wd_le, s_wd_ri, s_wd_re, s_wd_rs, s_wd_nf, s_wd_wr, s_wd_wd, s_wd_mf, s_wd_vf, s_wd_be, s_wd_fa, s_wd_up, s_wd_dn])
  simp only [oM, s_wd_df, s_wd_wf, s_wd_st, s_wd_af, s_wd_cf, s_wd_ty, s_wd_pa, s_wd_le, s_wd_ri, s_wd_re, s_wd_rs, s_wd_nf, s_wd_wr, s_wd_wd, s_wd_mf, s_wd_vf, s_wd_be, s_wd_fa, s_wd_up, s_wd_dn] at D1
  exact D1
section MR7
variable {b : Nat} {m : xM} {n U : Nat} {Q : Option Value → xW → Prop}
/-- the equations and sums of a state of the reference -/
def mN (m : xM) (n : Nat) : Nat → Nat → Int64 := hNN n (ouF m) (lD m.df) (rD m.df) (tD m.df)
def mS (m : xM) (n : Nat) : Nat → Int64 := hSS n (m.df 0) (ouF m) (lD m.df) (rD m.df) (tD m.df) (mD m.df)
theorem l108 (hp : 4 + m.df 1 = nI U) (hU : U = 4 ∨ U = 5) {N : Nat → Nat → Int64} {S : Nat → Int64} {det : Int64} (hd : ¬ det = 0) : ∀ (k i : Nat) (w : xW) (m2 : xM), i + k = U → isM w m2 → kM m m2 → (∀ p q, p < U → q < U → m2.nf (5 * p + q) = N p q) → (∀ p, p < U → m2.nf (25 + p) = S p) → m2.be = det → (∀ a, a < i → m2.vf a = dtF U (enF (nI a) N S)) → (U = 4 → m2.vf 4 = 0) → (∀ w2 m2, fr w w2 51 60 → isM w2 m2 → kM m m2 → m2.be = det → (∀ a, a < U → m2.vf a = dtF U (enF (nI a) N S)) → (U = 4 → m2.vf 4 = 0) → Q (some (.int 1)) w2) → Wp 108 b 22 [.ref 51, .int (nI i)] [] w Q := by
  intro k
  induction k with
  | zero =>
    intro i w m2 hk D k2 e1 e2 e3 e4 e5 K
    have hc : nI U ≤ nI i := nI_le (by omega) (by omega)
    have h0 := D.1
    have hp2 : 4 + m2.df 1 = nI U := by rw [k2.1, hp]
    simp only [q108_22, q108_23, q108_24, q108_27, q108_56, q108_57, q108_60, q108_61, q108_62, q108_65, q108_66, q108_69, q108_70, gF0, gF1, gF2, gF3, gF4, gF5, gF6, gF7, gF8, gF9, gF10, gF11, gF12, gF13, gF14, gF15, gF16, gF17, gF18, gF19, pF0, pF1, pF2, pF3, pF4, pF5, pF6, pF7, pF8, pF9, pF10, pF11, pF12, pF13, pF14, pF15, pF16, pF17, pF18, pF19, aI_mk, aL_mk, aA_mk, sI_mk, sL_mk, sA_mk, isO_mk, rl_some, rl_none, true_and, and_true, true_or, or_true, wr_1, h0, oM, c102 D, hp2, if_pos hc, e3, lg0, hd, if_false, o_01]
    have e : i = U := by omega
    subst e
    exact K w m2 fr.rf D k2 e3 e4 e5
  | succ k ih =>
    intro i w m2 hk D k2 e1 e2 e3 e4 e5 K
    have hc : ¬ nI U ≤ nI i := by rw [nI_le' (by omega) (by omega)]; omega
    have h0 := D.1
    have hp2 : 4 + m2.df 1 = nI U := by rw [k2.1, hp]
    have hx : x_pl (nI i) 5 := x_pl_nI (by omega) (by omega)
    have hcl : (nI i).toNatClampNeg = i := cl_nI (by omega)
    simp only [q108_22]
    simp only [q108_23, q108_24, q108_27, q108_30, q108_31, q108_34, q108_35, q108_36, q108_39, q108_40, q108_43, q108_44, q108_45, q108_46, gF0, gF1, gF2, gF3, gF4, gF5, gF6, gF7, gF8, gF9, gF10, gF11, gF12, gF13, gF14, gF15, gF16, gF17, gF18, gF19, pF0, pF1, pF2, pF3, pF4, pF5, pF6, pF7, pF8, pF9, pF10, pF11, pF12, pF13, pF14, pF15, pF16, pF17, pF18, pF19, aI_mk, aL_mk, aA_mk, sI_mk, sL_mk, sA_mk, isO_mk, rl_some, rl_none, true_and, and_true, true_or, or_true, wr_1, h0, oM, c102 D, hp2, if_neg hc, e3, lg0, hd, if_false]
    refine c107 D hp2 hU (fun w2 f2 e6 D2 => ?_)
    have h8 : rd w2 58 = .inl (1, 5, .inr (.inl m2.vf)) := by
      have := D2.2.2.2.2.2.2.2.1
      simp only [s_mf_vf] at this
      exact this
    have ee : dtF U (enF (nI i) (nM m2.nf) (sM m2.nf)) = dtF U (enF (nI i) N S) := by
      refine dtF_congr hU (fun r c hr hc => ?_)
      unfold enF
      by_cases z : nI c = nI i
      · rw [if_pos z, if_pos z]
        exact e2 r hr
      · rw [if_neg z, if_neg z]
        exact e1 r c hr hc
    simp only [q108_49, q108_50, q108_53, gF0, gF1, gF2, gF3, gF4, gF5, gF6, gF7, gF8, gF9, gF10, gF11, gF12, gF13, gF14, gF15, gF16, gF17, gF18, gF19, pF0, pF1, pF2, pF3, pF4, pF5, pF6, pF7, pF8, pF9, pF10, pF11, pF12, pF13, pF14, pF15, pF16, pF17, pF18, pF19, aI_mk, aL_mk, aA_mk, sI_mk, sL_mk, sA_mk, isO_mk, rl_some, rl_none, true_and, and_true, true_or, or_true, wr_1, h8, hx, hcl, nI_1, ee]
    refine ih (i + 1) _ ((m2.s_mf f2).s_vf (vp_updL m2.vf i (dtF U (enF (nI i) N S)))) (by omega) D2.s58 k2.mf.vf ?_ ?_ ?_ (fun a ha => ?_) (fun h4 => ?_) (fun w3 m3 e7 => K w3 m3 ((e6.tr (fr.wr (by omega) (by omega))).tr e7))
    · simp only [s_vf_nf, s_mf_nf]
      exact e1
    · simp only [s_vf_nf, s_mf_nf]
      exact e2
    · simp only [s_vf_be, s_mf_be]
      exact e3
    · simp only [s_vf_vf]
      by_cases z : a = i
      · rw [z, pk_uLs]
      · rw [pk_uLn z]
        exact e4 a (by omega)
    · simp only [s_vf_vf]
      rw [pk_uLn (by omega)]
      exact e5 h4
theorem c108 {w : xW} (D : isM w m) (v : vM m.df n) (hp : 4 + m.df 1 = nI U) (hU : U = 4 ∨ U = 5) (K : ∀ w2 m2, fr w w2 51 60 → isM w2 m2 → kM m m2 → m2.be = dtF U (mN m n) → (¬ dtF U (mN m n) = 0 → ∀ a, a < U → m2.vf a = dtF U (enF (nI a) (mN m n) (mS m n))) → (U = 4 → m2.vf 4 = 0) → Q (some (.int (bI (¬ dtF U (mN m n) = 0)))) w2) : Wp 108 b 0 [.ref 51, x_no] [] w Q := by
  have D0 : isM w (m.s_nf m.nf) := by
    rw [t_nf_self]
    exact D
  have hh := D.1
  simp only [q108_0, q108_1, gF0, gF1, gF2, gF3, gF4, gF5, gF6, gF7, gF8, gF9, gF10, gF11, gF12, gF13, gF14, gF15, gF16, gF17, gF18, gF19, pF0, pF1, pF2, pF3, pF4, pF5, pF6, pF7, pF8, pF9, pF10, pF11, pF12, pF13, pF14, pF15, pF16, pF17, pF18, pF19, aI_mk, aL_mk, aA_mk, sI_mk, sL_mk, sA_mk, isO_mk, rl_some, rl_none, true_and, and_true, true_or, or_true, wr_1, hh, oM]
  refine c106 D0 hp (by omega) (by omega) v (fun w2 f2 e2 D2 E1 E2 => ?_)
  have hp2 : 4 + (m.s_nf f2).df 1 = nI U := by
    rw [s_nf_df]
    exact hp
  have hh2 := D2.1
  simp only [q108_4, q108_5, q108_6, q108_7, gF0, gF1, gF2, gF3, gF4, gF5, gF6, gF7, gF8, gF9, gF10, gF11, gF12, gF13, gF14, gF15, gF16, gF17, gF18, gF19, pF0, pF1, pF2, pF3, pF4, pF5, pF6, pF7, pF8, pF9, pF10, pF11, pF12, pF13, pF14, pF15, pF16, pF17, pF18, pF19, aI_mk, aL_mk, aA_mk, sI_mk, sL_mk, sA_mk, isO_mk, rl_some, rl_none, true_and, and_true, true_or, or_true, wr_1, hh2, oM]
  refine c107 D2 hp2 hU (fun w3 f3 e3 D3 => ?_)
  have ee : dtF U (enF (-1) (nM (m.s_nf f2).nf) (sM (m.s_nf f2).nf)) = dtF U (mN m n) := by
    rw [dtF_m1 hU]
    refine dtF_congr hU (fun r c hr hc => ?_)
    rw [s_nf_nf]
    exact E1 r c hr hc
  have h0 := D3.1
  rw [ee]
  have kk : kM m ((m.s_nf f2).s_mf f3) := kM.rf.nf.mf
  have B1 := D3.o_be (dtF U (mN m n))
  have ebe : ((((m.s_nf f2).s_mf f3).s_be (dtF U (mN m n))).s_vf (vp_updL (((m.s_nf f2).s_mf f3).s_be (dtF U (mN m n))).vf 4 0)).be = dtF U (mN m n) := by
    simp only [s_vf_be, s_be_be]
  have evf : ((((m.s_nf f2).s_mf f3).s_be (dtF U (mN m n))).s_vf (vp_updL (((m.s_nf f2).s_mf f3).s_be (dtF U (mN m n))).vf 4 0)).vf 4 = 0 := by
    simp only [s_vf_vf]
    rw [pk_uLs]
  have enf : ((((m.s_nf f2).s_mf f3).s_be (dtF U (mN m n))).s_vf (vp_updL (((m.s_nf f2).s_mf f3).s_be (dtF U (mN m n))).vf 4 0)).nf = f2 := by
    simp only [s_vf_nf, s_be_nf, s_mf_nf, s_nf_nf]
  have B2 := B1.s58 (f := vp_updL (((m.s_nf f2).s_mf f3).s_be (dtF U (mN m n))).vf 4 0)
  have k2 : kM m ((((m.s_nf f2).s_mf f3).s_be (dtF U (mN m n))).s_vf (vp_updL (((m.s_nf f2).s_mf f3).s_be (dtF U (mN m n))).vf 4 0)) := kk.be.vf
  have h8 := B1.2.2.2.2.2.2.2.1
  have fr3 := (e2.tr e3).tr ((fr.wr (w := w3) (a := 51) (lo := 51) (hi := 60) (c := .inr (6, [.ref 52, .ref 53, .int (nI ((m.s_nf f2).s_mf f3).st), .ref 54, .ref 55, .int (nI ((m.s_nf f2).s_mf f3).ty), .int ((m.s_nf f2).s_mf f3).pa, .int ((m.s_nf f2).s_mf f3).le, .int ((m.s_nf f2).s_mf f3).ri, .int ((m.s_nf f2).s_mf f3).re, .int ((m.s_nf f2).s_mf f3).rs, .ref 56, .int ((m.s_nf f2).s_mf f3).wr, .int ((m.s_nf f2).s_mf f3).wd, .ref 57, .ref 58, .long (dtF U (mN m n)), .ref 59, .long ((m.s_nf f2).s_mf f3).up, .long ((m.s_nf f2).s_mf f3).dn])) (by omega) (by omega)).tr (fr.wr (a := 58) (lo := 51) (hi := 60) (c := .inl (1, 5, .inr (.inl (vp_updL (((m.s_nf f2).s_mf f3).s_be (dtF U (mN m n))).vf 4 0)))) (by omega) (by omega)))
  have p4 : x_pl 4 5 := x_pl_nI (j := 4) (by omega) (by omega)
  have W : ∀ w5 m5, isM w5 m5 → kM m m5 → m5.be = dtF U (mN m n) → m5.vf 4 = 0 → m5.nf = f2 → fr w w5 51 60 → Wp 108 b 20 [.ref 51, x_no] [] w5 Q := by
    intro w5 m5 D5 k5 b5 v5 n5 f5
    simp only [q108_20, q108_21]
    by_cases hd : dtF U (mN m n) = 0
    · have h5 := D5.1
      have hp5 : 4 + m5.df 1 = nI U := by rw [k5.1, hp]
      have hc : ¬ nI U ≤ 0 := by rw [show (0 : Int32) = nI 0 from rfl, nI_le' (by omega) (by omega)]; omega
      simp only [q108_22, q108_23, q108_24, q108_27, q108_30, q108_31, q108_34, q108_35, q108_36, q108_56, q108_57, q108_60, q108_61, q108_62, q108_65, q108_66, q108_69, q108_70, gF0, gF1, gF2, gF3, gF4, gF5, gF6, gF7, gF8, gF9, gF10, gF11, gF12, gF13, gF14, gF15, gF16, gF17, gF18, gF19, pF0, pF1, pF2, pF3, pF4, pF5, pF6, pF7, pF8, pF9, pF10, pF11, pF12, pF13, pF14, pF15, pF16, pF17, pF18, pF19, aI_mk, aL_mk, aA_mk, sI_mk, sL_mk, sA_mk, isO_mk, rl_some, rl_none, true_and, and_true, true_or, or_true, wr_1, h5, oM, c102 D5, hp5, if_neg hc, b5, lg0, hd, if_true, z_01]
      have := K w5 m5 f5 D5 k5 b5 (fun q => absurd hd q) (fun _ => v5)
      rw [bI_f (fun q => q hd)] at this
      exact this
    · refine l108 (m := m) hp hU (N := mN m n) (S := mS m n) hd U 0 w5 m5 (Nat.zero_add _) D5 k5 (fun p q h1 h2 => ?_) (fun p h1 => ?_) b5 (fun a ha => absurd ha (Nat.not_lt_zero _)) (fun _ => v5) (fun w6 m6 f6 D6 k6 b6 v6 z6 => ?_)
      · rw [n5]
        exact E1 p q h1 h2
      · rw [n5]
        exact E2 p h1
      · have := K w6 m6 (f5.tr f6) D6 k6 b6 (fun _ => v6) z6
        rw [bI_t hd] at this
        exact this
  have W2 := W _ _ B2 k2 ebe evf enf fr3
  simp only [q108_10, q108_13, q108_14, q108_17, q108_18, q108_19, gF0, gF1, gF2, gF3, gF4, gF5, gF6, gF7, gF8, gF9, gF10, gF11, gF12, gF13, gF14, gF15, gF16, gF17, gF18, gF19, pF0, pF1, pF2, pF3, pF4, pF5, pF6, pF7, pF8, pF9, pF10, pF11, pF12, pF13, pF14, pF15, pF16, pF17, pF18, pF19, aI_mk, aL_mk, aA_mk, sI_mk, sL_mk, sA_mk, isO_mk, rl_some, rl_none, true_and, and_true, true_or, or_true, wr_1, h0, oM, rd_s, h8, p4, Int32.reduceToNatClampNeg]
  exact W2
end MR7
