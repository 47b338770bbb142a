theorem isM.o_st {w : xW} {m : xM} (D : isM w m) (x : Nat) : isM (wr w 51 (.inr (6, [.ref 52, .ref 53, .int (nI x), .ref 54, .ref 55, .int (nI m.ty), .int m.pa, .int m.le, .int m.ri, .int m.re, .int m.rs, .ref 56, .int m.wr, .int m.wd, .ref 57, .ref 58, .long m.be, .ref 59, .long m.up, .long m.dn]))) (m.s_st x) := by
  have D1 : isM (wr w 51 (oM (m.s_st x))) (m.s_st x) := D.s51 (by simp only [s_st_df, s_st_wf, s_st_st, s_st_af, s_st_cf, s_st_ty, s_st_pa, s_st_le, s_st_ri, s_st_re, s_st_rs, s_st_nf, s_st_wr, s_st_wd, s_st_mf, s_st_vf, s_st_be, s_st_fa, s_st_up, s_st_dn])
  simp only [oM, s_st_df, s_st_wf, s_st_st, s_st_af, s_st_cf, s_st_ty, s_st_pa, s_st_le, s_st_ri, s_st_re, s_st_rs, s_st_nf, s_st_wr, s_st_wd, s_st_mf, s_st_vf, s_st_be, s_st_fa, s_st_up, s_st_dn] at D1
  exact D1
theorem isM.o_ty {w : xW} {m : xM} (D : isM w m) (x : Nat) : isM (wr w 51 (.inr (6, [.ref 52, .ref 53, .int (nI m.st), .ref 54, .ref 55, .int (nI x), .int m.pa, .int m.le, .int m.ri, .int m.re, .int m.rs, .ref 56, .int m.wr, .int m.wd, .ref 57, .ref 58, .long m.be, .ref 59, .long m.up, .long m.dn]))) (m.s_ty x) := by
  have D1 : isM (wr w 51 (oM (m.s_ty x))) (m.s_ty x) := D.s51 (by simp only [s_ty_df, s_ty_wf, s_ty_st, s_ty_af, s_ty_cf, s_ty_ty, s_ty_pa, s_ty_le, s_ty_ri, s_ty_re, s_ty_rs, s_ty_nf, s_ty_wr, s_ty_wd, s_ty_mf, s_ty_vf, s_ty_be, s_ty_fa, s_ty_up, s_ty_dn])
  simp only [oM, s_ty_df, s_ty_wf, s_ty_st, s_ty_af, s_ty_cf, s_ty_ty, s_ty_pa, s_ty_le, s_ty_ri, s_ty_re, s_ty_rs, s_ty_nf, s_ty_wr, s_ty_wd, s_ty_mf, s_ty_vf, s_ty_be, s_ty_fa, s_ty_up, s_ty_dn] at D1
  exact D1
theorem isM.o_pa {w : xW} {m : xM} (D : isM w m) (x : Int32) : isM (wr w 51 (.inr (6, [.ref 52, .ref 53, .int (nI m.st), .ref 54, .ref 55, .int (nI m.ty), .int x, .int m.le, .int m.ri, .int m.re, .int m.rs, .ref 56, .int m.wr, .int m.wd, .ref 57, .ref 58, .long m.be, .ref 59, .long m.up, .long m.dn]))) (m.s_pa x) := by
  have D1 : isM (wr w 51 (oM (m.s_pa x))) (m.s_pa x) := D.s51 (by simp only [s_pa_df, s_pa_wf, s_pa_st, s_pa_af, s_pa_cf, s_pa_ty, s_pa_pa, s_pa_le, s_pa_ri, s_pa_re, s_pa_rs, s_pa_nf, s_pa_wr, s_pa_wd, s_pa_mf, s_pa_vf, s_pa_be, s_pa_fa, s_pa_up, s_pa_dn])
  simp only [oM, s_pa_df, s_pa_wf, s_pa_st, s_pa_af, s_pa_cf, s_pa_ty, s_pa_pa, s_pa_le, s_pa_ri, s_pa_re, s_pa_rs, s_pa_nf, s_pa_wr, s_pa_wd, s_pa_mf, s_pa_vf, s_pa_be, s_pa_fa, s_pa_up, s_pa_dn] at D1
  exact D1
theorem isM.o_le {w : xW} {m : xM} (D : isM w m) (x : Int32) : isM (wr w 51 (.inr (6, [.ref 52, .ref 53, .int (nI m.st), .ref 54, .ref 55, .int (nI m.ty), .int m.pa, .int x, .int m.ri, .int m.re, .int m.rs, .ref 56, .int m.wr, .int m.wd, .ref 57, .ref 58, .long m.be, .ref 59, .long m.up, .long m.dn]))) (m.s_le x) := by
  have D1 : isM (wr w 51 (oM (m.s_le x))) (m.s_le x) := D.s51 (by simp only [s_le_df, s_le_wf, s_le_st, s_le_af, s_le_cf, s_le_ty, s_le_pa, s_le_le, s_le_ri, s_le_re, s_le_rs, s_le_nf, s_le_wr, s_le_wd, s_le_mf, s_le_vf, s_le_be, s_le_fa, s_le_up, s_le_dn])
  simp only [oM, s_le_df, s_le_wf, s_le_st, s_le_af, s_le_cf, s_le_ty, s_le_pa, s_le_le, s_le_ri, s_le_re, s_le_rs, s_le_nf, s_le_wr, s_le_wd, s_le_mf, s_le_vf, s_le_be, s_le_fa, s_le_up, s_le_dn] at D1
  exact D1
theorem isM.o_ri {w : xW} {m : xM} (D : isM w m) (x : Int32) : isM (wr w 51 (.inr (6, [.ref 52, .ref 53, .int (nI m.st), .ref 54, .ref 55, .int (nI m.ty), .int m.pa, .int m.le, .int x, .int m.re, .int m.rs, .ref 56, .int m.wr, .int m.wd, .ref 57, .ref 58, .long m.be, .ref 59, .long m.up, .long m.dn]))) (m.s_ri x) := by
  have D1 : isM (wr w 51 (oM (m.s_ri x))) (m.s_ri x) := D.s51 (by simp only [s_ri_df, s_ri_wf, s_ri_st, s_ri_af, s_ri_cf, s_ri_ty, s_ri_pa, s_ri_le, s_ri_ri, s_ri_re, s_ri_rs, s_ri_nf, s_ri_wr, s_ri_wd, s_ri_mf, s_ri_vf, s_ri_be, s_ri_fa, s_ri_up, s_ri_dn])
  simp only [oM, s_ri_df, s_ri_wf, s_ri_st, s_ri_af, s_ri_cf, s_ri_ty, s_ri_pa, s_ri_le, s_ri_ri, s_ri_re, s_ri_rs, s_ri_nf, s_ri_wr, s_ri_wd, s_ri_mf, s_ri_vf, s_ri_be, s_ri_fa, s_ri_up, s_ri_dn] at D1
  exact D1
theorem isM.o_re {w : xW} {m : xM} (D : isM w m) (x : Int32) : isM (wr w 51 (.inr (6, [.ref 52, .ref 53, .int (nI m.st), .ref 54, .ref 55, .int (nI m.ty), .int m.pa, .int m.le, .int m.ri, .int x, .int m.rs, .ref 56, .int m.wr, .int m.wd, .ref 57, .ref 58, .long m.be, .ref 59, .long m.up, .long m.dn]))) (m.s_re x) := by
  have D1 : isM (wr w 51 (oM (m.s_re x))) (m.s_re x) := D.s51 (by simp only [s_re_df, s_re_wf, s_re_st, s_re_af, s_re_cf, s_re_ty, s_re_pa, s_re_le, s_re_ri, s_re_re, s_re_rs, s_re_nf, s_re_wr, s_re_wd, s_re_mf, s_re_vf, s_re_be, s_re_fa, s_re_up, s_re_dn])
  simp only [oM, s_re_df, s_re_wf, s_re_st, s_re_af, s_re_cf, s_re_ty, s_re_pa, s_re_le, s_re_ri, s_re_re, s_re_rs, s_re_nf, s_re_wr, s_re_wd, s_re_mf, s_re_vf, s_re_be, s_re_fa, s_re_up, s_re_dn] at D1
  exact D1
theorem isM.o_rs {w : xW} {m : xM} (D : isM w m) (x : Int32) : isM (wr w 51 (.inr (6, [.ref 52, .ref 53, .int (nI m.st), .ref 54, .ref 55, .int (nI m.ty), .int m.pa, .int m.le, .int m.ri, .int m.re, .int x, .ref 56, .int m.wr, .int m.wd, .ref 57, .ref 58, .long m.be, .ref 59, .long m.up, .long m.dn]))) (m.s_rs x) := by
  have D1 : isM (wr w 51 (oM (m.s_rs x))) (m.s_rs x) := D.s51 (by simp only [s_rs_df, s_rs_wf, s_rs_st, s_rs_af, s_rs_cf, s_rs_ty, s_rs_pa, s_rs_le, s_rs_ri, s_rs_re, s_rs_rs, s_rs_nf, s_rs_wr, s_rs_wd, s_rs_mf, s_rs_vf, s_rs_be, s_rs_fa, s_rs_up, s_rs_dn])
  simp only [oM, s_rs_df, s_rs_wf, s_rs_st, s_rs_af, s_rs_cf, s_rs_ty, s_rs_pa, s_rs_le, s_rs_ri, s_rs_re, s_rs_rs, s_rs_nf, s_rs_wr, s_rs_wd, s_rs_mf, s_rs_vf, s_rs_be, s_rs_fa, s_rs_up, s_rs_dn] at D1
  exact D1
theorem t_wf_wf {m : xM} {f g : Nat → Int32} : (m.s_wf f).s_wf g = m.s_wf g := id rfl
theorem t_wf_self {m : xM} : m.s_wf m.wf = m := id rfl
theorem t_df_df {m : xM} {f g : Nat → Int32} : (m.s_df f).s_df g = m.s_df g := id rfl
theorem t_df_self {m : xM} : m.s_df m.df = m := id rfl
theorem t_af_af {m : xM} {f g : Nat → Int32} : (m.s_af f).s_af g = m.s_af g := id rfl
theorem t_af_self {m : xM} : m.s_af m.af = m := id rfl
section MR9
variable {b : Nat} {m : xM} {n U : Nat} {Q : Option Value → xW → Prop}
theorem isM.wf0 {w : xW} {f : Nat → Int32} (D : isM w (m.s_wf f)) : rd w 51 = oM m ∧ rd w 52 = .inl (0, 112, .inl m.df) ∧ rd w 53 = .inl (0, 560, .inl f) := by
  obtain ⟨h0, h1, h2, -⟩ := D
  simp only [oM, s_wf_df, s_wf_wf, s_wf_st, s_wf_af, s_wf_cf, s_wf_ty, s_wf_pa, s_wf_le, s_wf_ri, s_wf_re, s_wf_rs, s_wf_nf, s_wf_wr, s_wf_wd, s_wf_mf, s_wf_vf, s_wf_be, s_wf_fa, s_wf_up, s_wf_dn] at h0 h1 h2
  exact ⟨h0, h1, h2⟩
theorem isM.wf1 {w : xW} {f g : Nat → Int32} (D : isM w (m.s_wf f)) : isM (wr w 53 (.inl (0, 560, .inl g))) (m.s_wf g) := by
  have := D.s53 (f := g)
  rw [t_wf_wf] at this
  exact this
theorem isM.df0 {w : xW} {f : Nat → Int32} (D : isM w (m.s_df f)) : rd w 51 = oM m ∧ rd w 52 = .inl (0, 112, .inl f) ∧ rd w 53 = .inl (0, 560, .inl m.wf) ∧ rd w 54 = .inl (0, 112, .inl m.af) := by
  obtain ⟨h0, h1, h2, h3, -⟩ := D
  simp only [oM, s_df_df, s_df_wf, s_df_st, s_df_af, s_df_cf, s_df_ty, s_df_pa, s_df_le, s_df_ri, s_df_re, s_df_rs, s_df_nf, s_df_wr, s_df_wd, s_df_mf, s_df_vf, s_df_be, s_df_fa, s_df_up, s_df_dn] at h0 h1 h2 h3
  exact ⟨h0, h1, h2, h3⟩
theorem isM.df1 {w : xW} {f g : Nat → Int32} (D : isM w (m.s_df f)) : isM (wr w 52 (.inl (0, 112, .inl g))) (m.s_df g) := by
  have := D.s52 (f := g)
  rw [t_df_df] at this
  exact this
theorem isM.af0 {w : xW} {f : Nat → Int32} (D : isM w (m.s_af f)) : rd w 51 = oM m ∧ rd w 52 = .inl (0, 112, .inl m.df) ∧ rd w 54 = .inl (0, 112, .inl f) := by
  obtain ⟨h0, h1, -, h3, -⟩ := D
  simp only [oM, s_af_df, s_af_wf, s_af_st, s_af_af, s_af_cf, s_af_ty, s_af_pa, s_af_le, s_af_ri, s_af_re, s_af_rs, s_af_nf, s_af_wr, s_af_wd, s_af_mf, s_af_vf, s_af_be, s_af_fa, s_af_up, s_af_dn] at h0 h1 h3
  exact ⟨h0, h1, h3⟩
theorem isM.af1 {w : xW} {f g : Nat → Int32} (D : isM w (m.s_af f)) : isM (wr w 54 (.inl (0, 112, .inl g))) (m.s_af g) := by
  have := D.s54 (f := g)
  rw [t_af_af] at this
  exact this
theorem l149 : ∀ (k i : Nat) (w : xW) (f : Nat → Int32), i + k = 112 → isM w (m.s_af f) → (∀ w2 f2, fr w w2 51 60 → isM w2 (m.s_af f2) → (∀ z, f2 z = if i ≤ z ∧ z < 112 then m.df z else f z) → Q none w2) → Wp 149 b 2 [.ref 51, .int (nI i)] [] w Q := by
  intro k
  induction k with
  | zero =>
    intro i w f hk D K
    have e : i = 112 := by omega
    subst e
    have hc : (112 : Int32) ≤ nI 112 := by decide
    simp only [q149_2, q149_3, q149_5, q149_26, gF0, gF1, gF2, gF3, gF4, gF5, gF6, gF7, gF8, gF9, gF10, gF11, gF12, gF13, gF14, gF15, gF16, gF17, gF18, gF19, pF0, pF1, pF2, pF3, pF4, pF5, pF6, pF7, pF8, pF9, pF10, pF11, pF12, pF13, pF14, pF15, pF16, pF17, pF18, pF19, aI_mk, aL_mk, aA_mk, sI_mk, sL_mk, sA_mk, isO_mk, rl_some, rl_none, true_and, and_true, true_or, or_true, wr_1, if_pos hc]
    exact K w f fr.rf D (fun z => by rw [if_neg (by omega)])
  | succ k ih =>
    intro i w f hk D K
    have hc : ¬ (112 : Int32) ≤ nI i := by rw [show (112 : Int32) = nI 112 from rfl, nI_le' (by omega) (by omega)]; omega
    obtain ⟨h0, h1, h3⟩ := D.af0
    have hx : x_pl (nI i) 112 := x_pl_nI (by omega) (by omega)
    have hcl : (nI i).toNatClampNeg = i := cl_nI (by omega)
    simp only [q149_2]
    simp only [q149_3, q149_5, q149_8, q149_9, q149_12, q149_13, q149_14, q149_17, q149_18, q149_19, q149_20, q149_23, gF0, gF1, gF2, gF3, gF4, gF5, gF6, gF7, gF8, gF9, gF10, gF11, gF12, gF13, gF14, gF15, gF16, gF17, gF18, gF19, pF0, pF1, pF2, pF3, pF4, pF5, pF6, pF7, pF8, pF9, pF10, pF11, pF12, pF13, pF14, pF15, pF16, pF17, pF18, pF19, aI_mk, aL_mk, aA_mk, sI_mk, sL_mk, sA_mk, isO_mk, rl_some, rl_none, true_and, and_true, true_or, or_true, wr_1, h0, oM, h1, h3, if_neg hc, hx, hcl, nI_1]
    refine ih (i + 1) _ _ (by omega) D.af1 (fun w2 f2 e2 D2 E => K w2 f2 ((fr.wr (by omega) (by omega)).tr e2) D2 (fun z => ?_))
    rw [E z]
    by_cases c1 : z = i
    · rw [if_neg (by omega), if_pos (by omega), c1, pk_us]
    · rw [pk_un c1]
      by_cases c2 : i + 1 ≤ z ∧ z < 112
      · rw [if_pos c2, if_pos (by omega)]
      · rw [if_neg c2, if_neg (by omega)]
theorem c149 {w : xW} (D : isM w m) (K : ∀ w2 f2, fr w w2 51 60 → isM w2 (m.s_af f2) → (∀ z, z < 112 → f2 z = m.df z) → Q none w2) : Wp 149 b 0 [.ref 51, x_no] [] w Q := by
  rw [← t_af_self (m := m)] at D
  simp only [q149_0, q149_1]
  refine l149 112 0 w _ (by omega) D (fun w2 f2 e2 D2 E => K w2 f2 e2 D2 (fun z hz => ?_))
  rw [E z, if_pos (by omega)]
theorem l150 : ∀ (k i : Nat) (w : xW) (f : Nat → Int32), i + k = 112 → isM w (m.s_df f) → (∀ w2 f2, fr w w2 51 60 → isM w2 (m.s_df f2) → (∀ z, f2 z = if i ≤ z ∧ z < 112 then m.af z else f z) → Q none w2) → Wp 150 b 2 [.ref 51, .int (nI i)] [] w Q := by
  intro k
  induction k with
  | zero =>
    intro i w f hk D K
    have e : i = 112 := by omega
    subst e
    have hc : (112 : Int32) ≤ nI 112 := by decide
    simp only [q150_2, q150_3, q150_5, q150_26, gF0, gF1, gF2, gF3, gF4, gF5, gF6, gF7, gF8, gF9, gF10, gF11, gF12, gF13, gF14, gF15, gF16, gF17, gF18, gF19, pF0, pF1, pF2, pF3, pF4, pF5, pF6, pF7, pF8, pF9, pF10, pF11, pF12, pF13, pF14, pF15, pF16, pF17, pF18, pF19, aI_mk, aL_mk, aA_mk, sI_mk, sL_mk, sA_mk, isO_mk, rl_some, rl_none, true_and, and_true, true_or, or_true, wr_1, if_pos hc]
    exact K w f fr.rf D (fun z => by rw [if_neg (by omega)])
  | succ k ih =>
    intro i w f hk D K
    have hc : ¬ (112 : Int32) ≤ nI i := by rw [show (112 : Int32) = nI 112 from rfl, nI_le' (by omega) (by omega)]; omega
    obtain ⟨h0, h1, -, h3⟩ := D.df0
    have hx : x_pl (nI i) 112 := x_pl_nI (by omega) (by omega)
    have hcl : (nI i).toNatClampNeg = i := cl_nI (by omega)
    simp only [q150_2]
    simp only [q150_3, q150_5, q150_8, q150_9, q150_12, q150_13, q150_14, q150_17, q150_18, q150_19, q150_20, q150_23, gF0, gF1, gF2, gF3, gF4, gF5, gF6, gF7, gF8, gF9, gF10, gF11, gF12, gF13, gF14, gF15, gF16, gF17, gF18, gF19, pF0, pF1, pF2, pF3, pF4, pF5, pF6, pF7, pF8, pF9, pF10, pF11, pF12, pF13, pF14, pF15, pF16, pF17, pF18, pF19, aI_mk, aL_mk, aA_mk, sI_mk, sL_mk, sA_mk, isO_mk, rl_some, rl_none, true_and, and_true, true_or, or_true, wr_1, h0, oM, h1, h3, if_neg hc, hx, hcl, nI_1]
    refine ih (i + 1) _ _ (by omega) D.df1 (fun w2 f2 e2 D2 E => K w2 f2 ((fr.wr (by omega) (by omega)).tr e2) D2 (fun z => ?_))
    rw [E z]
    by_cases c1 : z = i
    · rw [if_neg (by omega), if_pos (by omega), c1, pk_us]
    · rw [pk_un c1]
      by_cases c2 : i + 1 ≤ z ∧ z < 112
      · rw [if_pos c2, if_pos (by omega)]
      · rw [if_neg c2, if_neg (by omega)]
theorem c150 {w : xW} (D : isM w m) (K : ∀ w2 f2, fr w w2 51 60 → isM w2 (m.s_df f2) → (∀ z, z < 112 → f2 z = m.af z) → Q none w2) : Wp 150 b 0 [.ref 51, x_no] [] w Q := by
  rw [← t_df_self (m := m)] at D
  simp only [q150_0, q150_1]
  refine l150 112 0 w _ (by omega) D (fun w2 f2 e2 D2 E => K w2 f2 e2 D2 (fun z hz => ?_))
  rw [E z, if_pos (by omega)]
theorem ixw {a i : Nat} (ha : a ≤ 4) (hi : i < 112) : (112 : Int32) * nI a + nI i = nI (112 * a + i) ∧ x_pl (nI (112 * a + i)) 560 ∧ (nI (112 * a + i)).toNatClampNeg = 112 * a + i := by
  refine ⟨?_, x_pl_nI (by omega) (by omega), cl_nI (by omega)⟩
  rw [show (112 : Int32) = nI 112 from rfl, pk_mul, nI_add]
theorem l98a : ∀ (k i : Nat) (w : xW) (f : Nat → Int32), i + k = 448 → isM w (m.s_wf f) → (∀ w2 f2, fr w w2 51 60 → isM w2 (m.s_wf f2) → (∀ z, f2 z = if i ≤ z ∧ z < 448 then f (z + 112) else f z) → Wp 98 b 38 [.ref 51, .int (nI 448)] [] w2 Q) → Wp 98 b 10 [.ref 51, .int (nI i)] [] w Q := by
  intro k
  induction k with
  | zero =>
    intro i w f hk D K
    have e : i = 448 := by omega
    subst e
    have hc : (448 : Int32) ≤ nI 448 := by decide
    simp only [q98_10, q98_11, q98_14, gF0, gF1, gF2, gF3, gF4, gF5, gF6, gF7, gF8, gF9, gF10, gF11, gF12, gF13, gF14, gF15, gF16, gF17, gF18, gF19, pF0, pF1, pF2, pF3, pF4, pF5, pF6, pF7, pF8, pF9, pF10, pF11, pF12, pF13, pF14, pF15, pF16, pF17, pF18, pF19, aI_mk, aL_mk, aA_mk, sI_mk, sL_mk, sA_mk, isO_mk, rl_some, rl_none, true_and, and_true, true_or, or_true, wr_1, if_pos hc]
    exact K w f fr.rf D (fun z => by rw [if_neg (by omega)])
  | succ k ih =>
    intro i w f hk D K
    have hc : ¬ (448 : Int32) ≤ nI i := by rw [show (448 : Int32) = nI 448 from rfl, nI_le' (by omega) (by omega)]; omega
    obtain ⟨h0, h1, h2⟩ := D.wf0
    have hx : x_pl (nI i) 560 := x_pl_nI (by omega) (by omega)
    have hcl : (nI i).toNatClampNeg = i := cl_nI (by omega)
    have hi2 : nI i + 112 = nI (i + 112) := nI_add i 112
    have hy : x_pl (nI (i + 112)) 560 := x_pl_nI (by omega) (by omega)
    have hyl : (nI (i + 112)).toNatClampNeg = i + 112 := cl_nI (by omega)
    simp only [q98_10]
    simp only [q98_11, q98_14, q98_17, q98_18, q98_21, q98_22, q98_23, q98_26, q98_27, q98_29, q98_30, q98_31, q98_32, q98_35, gF0, gF1, gF2, gF3, gF4, gF5, gF6, gF7, gF8, gF9, gF10, gF11, gF12, gF13, gF14, gF15, gF16, gF17, gF18, gF19, pF0, pF1, pF2, pF3, pF4, pF5, pF6, pF7, pF8, pF9, pF10, pF11, pF12, pF13, pF14, pF15, pF16, pF17, pF18, pF19, aI_mk, aL_mk, aA_mk, sI_mk, sL_mk, sA_mk, isO_mk, rl_some, rl_none, true_and, and_true, true_or, or_true, wr_1, h0, oM, h2, if_neg hc, hx, hcl, hi2, hy, hyl, nI_1]
    refine ih (i + 1) _ _ (by omega) D.wf1 (fun w2 f2 e2 D2 E => K w2 f2 ((fr.wr (by omega) (by omega)).tr e2) D2 (fun z => ?_))
    rw [E z]
    by_cases c1 : z = i
    · rw [if_neg (by omega), if_pos (by omega), c1, pk_us]
    · rw [pk_un c1]
      by_cases c2 : i + 1 ≤ z ∧ z < 448
      · rw [if_pos c2, if_pos (by omega), pk_un (by omega)]
      · rw [if_neg c2, if_neg (by omega)]
theorem l98b (hs : m.st ≤ 4) : ∀ (k i : Nat) (w : xW) (f : Nat → Int32), i + k = 112 → isM w (m.s_wf f) → (∀ w2 f2, fr w w2 51 60 → isM w2 (m.s_wf f2) → (∀ z, f2 z = if 112 * m.st + i ≤ z ∧ z < 112 * m.st + 112 then m.df (z - 112 * m.st) else f z) → Wp 98 b 82 [.ref 51, .int (nI 112)] [] w2 Q) → Wp 98 b 50 [.ref 51, .int (nI i)] [] w Q := by
  intro k
  induction k with
  | zero =>
    intro i w f hk D K
    have e : i = 112 := by omega
    subst e
    have hc : (112 : Int32) ≤ nI 112 := by decide
    simp only [q98_50, q98_51, q98_53, gF0, gF1, gF2, gF3, gF4, gF5, gF6, gF7, gF8, gF9, gF10, gF11, gF12, gF13, gF14, gF15, gF16, gF17, gF18, gF19, pF0, pF1, pF2, pF3, pF4, pF5, pF6, pF7, pF8, pF9, pF10, pF11, pF12, pF13, pF14, pF15, pF16, pF17, pF18, pF19, aI_mk, aL_mk, aA_mk, sI_mk, sL_mk, sA_mk, isO_mk, rl_some, rl_none, true_and, and_true, true_or, or_true, wr_1, if_pos hc]
    exact K w f fr.rf D (fun z => by rw [if_neg (by omega)])
  | succ k ih =>
    intro i w f hk D K
    have hc : ¬ (112 : Int32) ≤ nI i := by rw [show (112 : Int32) = nI 112 from rfl, nI_le' (by omega) (by omega)]; omega
    obtain ⟨h0, h1, h2⟩ := D.wf0
    have hx : x_pl (nI i) 112 := x_pl_nI (by omega) (by omega)
    have hcl : (nI i).toNatClampNeg = i := cl_nI (by omega)
    simp only [q98_50]
    simp only [q98_51, q98_53, q98_56, q98_57, q98_60, q98_62, q98_63, q98_66, q98_67, q98_68, q98_69, q98_70, q98_73, q98_74, q98_75, q98_76, q98_79, gF0, gF1, gF2, gF3, gF4, gF5, gF6, gF7, gF8, gF9, gF10, gF11, gF12, gF13, gF14, gF15, gF16, gF17, gF18, gF19, pF0, pF1, pF2, pF3, pF4, pF5, pF6, pF7, pF8, pF9, pF10, pF11, pF12, pF13, pF14, pF15, pF16, pF17, pF18, pF19, aI_mk, aL_mk, aA_mk, sI_mk, sL_mk, sA_mk, isO_mk, rl_some, rl_none, true_and, and_true, true_or, or_true, wr_1, h0, oM, h1, h2, if_neg hc, hx, hcl, ixw hs (show i < 112 by omega), nI_1]
    refine ih (i + 1) _ _ (by omega) D.wf1 (fun w2 f2 e2 D2 E => K w2 f2 ((fr.wr (by omega) (by omega)).tr e2) D2 (fun z => ?_))
    rw [E z]
    by_cases c1 : z = 112 * m.st + i
    · rw [if_neg (by omega), if_pos (by omega), c1, pk_us, show 112 * m.st + i - 112 * m.st = i by omega]
    · rw [pk_un c1]
      by_cases c2 : 112 * m.st + (i + 1) ≤ z ∧ z < 112 * m.st + 112
      · rw [if_pos c2, if_pos (by omega)]
      · rw [if_neg c2, if_neg (by omega)]
end MR9
