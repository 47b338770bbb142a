/-- what lasts, but for the design -/
def lsM (m m2 : xM) : Prop := m2.wf = m.wf ∧ m2.st = m.st ∧ m2.cf = m.cf ∧ m2.ty = m.ty ∧ m2.wr = m.wr ∧ m2.wd = m.wd
/-- the design is recorded, whatever it is then -/
def rkM (m m2 : xM) : Prop := m2.cf = m.cf ∧ m2.ty = m.ty ∧ m2.wr = m.wr ∧ m2.wd = m.wd ∧ m2.st = (if m.st = 5 then 5 else m.st + 1) ∧ ∀ j, j < m2.st → ∀ q, q < 112 → m2.wf (112 * j + q) = if j + 1 = m2.st then m.df q else if m.st = 5 then m.wf (112 * (j + 1) + q) else m.wf (112 * j + q)
theorem dO_112 {n : Nat} {d d' : Nat → Int32} (h : ∀ z, z < 112 → d' z = d z) (v : vM d n) : eqD (dOf n d') (dOf n d) ∧ vM d' n := by
  obtain ⟨v0, v1, v2⟩ := v
  have et : ∀ j, j < 12 → tD d' j = tD d j := fun j hj => h (28 + j) (by omega)
  refine ⟨⟨?_, fun j hj => ?_⟩, ?_, v1, fun j hj => ?_⟩
  · show (d' 0, d' 1, d' 2, n) = (d 0, d 1, d 2, n)
    rw [h 0 (by omega), h 1 (by omega), h 2 (by omega)]
  · have hj : j < n := hj
    refine ⟨h (4 + j) (by omega), h (16 + j) (by omega), h (28 + j) (by omega), fun k hk => h (40 + (6 * j + k)) ?_⟩
    have hk : k < tkF (tD d) j := hk
    have := (v2 j hj).2
    omega
  · rw [h 3 (by omega), v0]
  · have := v2 j hj
    unfold tkF at this ⊢
    rw [et j (by omega)]
    exact this
section MRJ
variable {b : Nat} {m : xM} {n len : Nat} {dd : DD} {Q : Option Value → xW → Prop}
theorem c151 {w : xW} (D : isM w m) (v : vM m.df n) (hl : m.ty = len) (h80 : len ≤ 80) (E : eqD (dOf n m.df) dd) (K : ∀ w2 m2 x1, fr w w2 51 60 → isM w2 m2 → (∀ z, z < 112 → m2.df z = m.df z) → lsM m m2 → ((rnF m.cf len 80 dd 0 0).1 = 0 → x1 = -2000000004) → (¬ (rnF m.cf len 80 dd 0 0).1 = 0 → x1 = nI (rnF m.cf len 80 dd 0 0).2.2.1 ∧ (rnF m.cf len 80 dd 0 0).2.2.1 ≤ 80 ∧ m2.rs = (rnF m.cf len 80 dd 0 0).1) → Q (some (.int x1)) w2) : Wp 151 b 0 [.ref 51, x_no, x_no] [] w Q := by
  have h0 := D.1
  simp only [q151_0, q151_1, gF0, gF1, gF2, gF3, gF4, gF5, gF6, gF7, gF8, gF9, gF10, gF11, gF12, gF13, gF14, gF15, gF16, gF17, gF18, gF19, pF0, pF1, pF2, pF3, pF4, pF5, pF6, pF7, pF8, pF9, pF10, pF11, pF12, pF13, pF14, pF15, pF16, pF17, pF18, pF19, aI_mk, aL_mk, aA_mk, sI_mk, sL_mk, sA_mk, isO_mk, rl_some, rl_none, true_and, and_true, true_or, or_true, wr_1, h0, oM]
  refine c149 D (fun w2 f2 e2 D2 hf => ?_)
  have g1 : (m.s_af f2).df = m.df := s_af_df
  have g2 : lsM m (m.s_af f2) := by
    unfold lsM
    simp only [s_af_wf, s_af_st, s_af_cf, s_af_ty, s_af_wr, s_af_wd]
    exact ⟨trivial, trivial, trivial, trivial, trivial, trivial⟩
  have g3 : ∀ z, z < 112 → (m.s_af f2).af z = m.df z := fun z hz => by
    rw [s_af_af]
    exact hf z hz
  generalize m.s_af f2 = m1 at D2 g1 g2 g3
  have D3 : isM w2 (m1.s_T m1.pa m1.le m1.ri m1.re m1.rs) := by
    rw [t_T_self]
    exact D2
  have h3 := D3.T0.1
  have D4 := D3.T1 (nI 0) m1.le m1.ri m1.re m1.rs
  have D5 : isM (wr w2 51 (.inr (6, [.ref 52, .ref 53, .int (nI m1.st), .ref 54, .ref 55, .int (nI m1.ty), .int (nI 0), .int m1.le, .int m1.ri, .int m1.re, .int m1.rs, .ref 56, .int m1.wr, .int m1.wd, .ref 57, .ref 58, .long m1.be, .ref 59, .long m1.up, .long m1.dn]))) ((m1.s_df m1.df).s_T (nI 0) m1.le m1.ri m1.re m1.rs) := by
    rw [t_df_self]
    exact D4
  obtain ⟨l1, l2, l3, l4, l5, l6⟩ := g2
  have z0 : (0 : Int32) = nI 0 := rfl
  simp only [q151_4, q151_6, q151_7, q151_8, q151_9, gF0, gF1, gF2, gF3, gF4, gF5, gF6, gF7, gF8, gF9, gF10, gF11, gF12, gF13, gF14, gF15, gF16, gF17, gF18, gF19, pF0, pF1, pF2, pF3, pF4, pF5, pF6, pF7, pF8, pF9, pF10, pF11, pF12, pF13, pF14, pF15, pF16, pF17, pF18, pF19, aI_mk, aL_mk, aA_mk, sI_mk, sL_mk, sA_mk, isO_mk, rl_some, rl_none, true_and, and_true, true_or, or_true, wr_1, h3]
  refine l151 (m := m1) (len := len) (by rw [l4, hl]) h80 80 _ m1.df n dd 0 0 _ _ _ _ _ (by omega) (by omega) (by rw [g1]; exact E) (by rw [g1]; exact v) D5 (fun w6 d6 p6 le6 ri6 re6 rs6 x1 x2 f6 D6 k1 k2 => ?_)
  have h6 := D6.T0.1
  simp only [q151_58, q151_59, gF0, gF1, gF2, gF3, gF4, gF5, gF6, gF7, gF8, gF9, gF10, gF11, gF12, gF13, gF14, gF15, gF16, gF17, gF18, gF19, pF0, pF1, pF2, pF3, pF4, pF5, pF6, pF7, pF8, pF9, pF10, pF11, pF12, pF13, pF14, pF15, pF16, pF17, pF18, pF19, aI_mk, aL_mk, aA_mk, sI_mk, sL_mk, sA_mk, isO_mk, rl_some, rl_none, true_and, and_true, true_or, or_true, wr_1, h6]
  refine c150 D6 (fun w7 f7 e7 D7 hf7 => ?_)
  have KK := K w7 _ x1 (((e2.tr (fr.wr (by omega) (by omega))).tr f6).tr e7) D7 (fun z hz => by
    simp only [s_df_df, s_T_af, s_df_af] at hf7 ⊢
    rw [hf7 z hz]
    exact g3 z hz) (by
    unfold lsM
    simp only [s_df_wf, s_df_st, s_df_cf, s_df_ty, s_df_wr, s_df_wd, s_T_wf, s_T_st, s_T_cf, s_T_ty, s_T_wr, s_T_wd]
    exact ⟨l1, l2, l3, l4, l5, l6⟩) (fun q => k1 (by rw [l3]; exact q)) (fun q => by
    have := k2 (by rw [l3]; exact q)
    rw [l3] at this
    simp only [s_df_rs, s_T_rs]
    exact this)
  simp only [q151_62, q151_63, gF0, gF1, gF2, gF3, gF4, gF5, gF6, gF7, gF8, gF9, gF10, gF11, gF12, gF13, gF14, gF15, gF16, gF17, gF18, gF19, pF0, pF1, pF2, pF3, pF4, pF5, pF6, pF7, pF8, pF9, pF10, pF11, pF12, pF13, pF14, pF15, pF16, pF17, pF18, pF19, aI_mk, aL_mk, aA_mk, sI_mk, sL_mk, sA_mk, isO_mk, rl_some, rl_none, true_and, and_true, true_or, or_true, wr_1]
  exact KK
theorem c152 {w : xW} {t : Int32} (D : isM w m) (v : vM m.df n) (hl : m.ty = len) (h80 : len ≤ 80) (E : eqD (dOf n m.df) dd) (K0 : ¬ (0 ≤ t ∧ t ≤ 1) → Q (some (.int (-2000000001))) w) (K : ∀ w2 m2, (0 ≤ t ∧ t ≤ 1) → fr w w2 51 60 → isM w2 m2 → (∀ z, z < 112 → m2.df z = m.df z) → lsM m m2 → Q (some (.int (if (rnF m.cf len 80 dd 0 0).1 = 0 then -2000000004 else if t = 0 then nI (rnF m.cf len 80 dd 0 0).2.2.1 else (rnF m.cf len 80 dd 0 0).1))) w2) : Wp 152 b 0 [.ref 51, .int t, x_no] [] w Q := by
  have z1 : ¬ (1 : Int32) = 0 := by decide
  by_cases c : 0 ≤ t ∧ t ≤ 1
  · have h0 := D.1
    simp only [q152_0, q152_1, q152_2, q152_3, q152_6, q152_9, q152_11, q152_12, q152_13, gF0, gF1, gF2, gF3, gF4, gF5, gF6, gF7, gF8, gF9, gF10, gF11, gF12, gF13, gF14, gF15, gF16, gF17, gF18, gF19, pF0, pF1, pF2, pF3, pF4, pF5, pF6, pF7, pF8, pF9, pF10, pF11, pF12, pF13, pF14, pF15, pF16, pF17, pF18, pF19, aI_mk, aL_mk, aA_mk, sI_mk, sL_mk, sA_mk, isO_mk, rl_some, rl_none, true_and, and_true, true_or, or_true, wr_1, c93, bI_t c, z1, not_false_eq_true, if_true, h0, oM]
    refine c151 D v hl h80 E (fun w2 m2 x1 f2 D2 hd ls k1 k2 => ?_)
    have KK := K w2 m2 c f2 D2 hd ls
    have h2 := D2.1
    by_cases r : (rnF m.cf len 80 dd 0 0).1 = 0
    · rw [if_pos r] at KK
      rw [k1 r]
      simp only [q152_16, q152_17, q152_18, q152_20, q152_23, q152_24, q152_27, q152_28, q152_31, q152_32, q152_35, gF0, gF1, gF2, gF3, gF4, gF5, gF6, gF7, gF8, gF9, gF10, gF11, gF12, gF13, gF14, gF15, gF16, gF17, gF18, gF19, pF0, pF1, pF2, pF3, pF4, pF5, pF6, pF7, pF8, pF9, pF10, pF11, pF12, pF13, pF14, pF15, pF16, pF17, pF18, pF19, aI_mk, aL_mk, aA_mk, sI_mk, sL_mk, sA_mk, isO_mk, rl_some, rl_none, true_and, and_true, true_or, or_true, wr_1, if_true]
      exact KK
    · rw [if_neg r] at KK
      obtain ⟨y1, y2, y3⟩ := k2 r
      have hn := nI_nf (p := (rnF m.cf len 80 dd 0 0).2.2.1) (by omega)
      rw [y1]
      by_cases t0 : t = 0
      · rw [if_pos t0] at KK
        simp only [q152_16, q152_17, q152_18, q152_20, q152_23, q152_24, q152_27, q152_28, q152_31, q152_32, q152_35, gF0, gF1, gF2, gF3, gF4, gF5, gF6, gF7, gF8, gF9, gF10, gF11, gF12, gF13, gF14, gF15, gF16, gF17, gF18, gF19, pF0, pF1, pF2, pF3, pF4, pF5, pF6, pF7, pF8, pF9, pF10, pF11, pF12, pF13, pF14, pF15, pF16, pF17, pF18, pF19, aI_mk, aL_mk, aA_mk, sI_mk, sL_mk, sA_mk, isO_mk, rl_some, rl_none, true_and, and_true, true_or, or_true, wr_1, hn, if_false, t0, not_true]
        exact KK
      · rw [if_neg t0] at KK
        rw [← y3] at KK
        simp only [q152_16, q152_17, q152_18, q152_20, q152_23, q152_24, q152_27, q152_28, q152_31, q152_32, q152_35, gF0, gF1, gF2, gF3, gF4, gF5, gF6, gF7, gF8, gF9, gF10, gF11, gF12, gF13, gF14, gF15, gF16, gF17, gF18, gF19, pF0, pF1, pF2, pF3, pF4, pF5, pF6, pF7, pF8, pF9, pF10, pF11, pF12, pF13, pF14, pF15, pF16, pF17, pF18, pF19, aI_mk, aL_mk, aA_mk, sI_mk, sL_mk, sA_mk, isO_mk, rl_some, rl_none, true_and, and_true, true_or, or_true, wr_1, hn, if_false, t0, not_false_eq_true, if_true, h2, oM]
        exact KK
  · have := K0 c
    simp only [q152_0, q152_1, q152_2, q152_3, q152_6, q152_9, q152_11, gF0, gF1, gF2, gF3, gF4, gF5, gF6, gF7, gF8, gF9, gF10, gF11, gF12, gF13, gF14, gF15, gF16, gF17, gF18, gF19, pF0, pF1, pF2, pF3, pF4, pF5, pF6, pF7, pF8, pF9, pF10, pF11, pF12, pF13, pF14, pF15, pF16, pF17, pF18, pF19, aI_mk, aL_mk, aA_mk, sI_mk, sL_mk, sA_mk, isO_mk, rl_some, rl_none, true_and, and_true, true_or, or_true, wr_1, c93, bI_f c, not_true, if_false]
    exact this
theorem c153 {w : xW} (D : isM w m) (v : vM m.df n) (hs : m.st ≤ 5) (hl : m.ty = len) (h80 : len ≤ 80) (E : eqD (dOf n m.df) dd) (K0 : ∀ w2 m2, ¬ (rnF m.cf len 80 dd 0 0).1 = 0 → fr w w2 51 60 → isM w2 m2 → (∀ z, z < 112 → m2.df z = m.df z) → lsM m m2 → Q (some (.int (-2000000002))) w2) (K : ∀ w2 m2 n2, (rnF m.cf len 80 dd 0 0).1 = 0 → fr w w2 51 60 → isM w2 m2 → eqD (dOf n2 m2.df) (rnF m.cf len 80 dd 0 0).2.1 → vM m2.df n2 → rkM m m2 → Q (some (.int (nI (rnF m.cf len 80 dd 0 0).2.2.2))) w2) : Wp 153 b 0 [.ref 51, x_no] [] w Q := by
  have h0 := D.1
  simp only [q153_0, q153_1, gF0, gF1, gF2, gF3, gF4, gF5, gF6, gF7, gF8, gF9, gF10, gF11, gF12, gF13, gF14, gF15, gF16, gF17, gF18, gF19, pF0, pF1, pF2, pF3, pF4, pF5, pF6, pF7, pF8, pF9, pF10, pF11, pF12, pF13, pF14, pF15, pF16, pF17, pF18, pF19, aI_mk, aL_mk, aA_mk, sI_mk, sL_mk, sA_mk, isO_mk, rl_some, rl_none, true_and, and_true, true_or, or_true, wr_1, h0, oM]
  refine c151 D v hl h80 E (fun w2 m2 x1 f2 D2 hd ls k1 k2 => ?_)
  by_cases r : (rnF m.cf len 80 dd 0 0).1 = 0
  · have h2 := D2.1
    rw [k1 r]
    simp only [q153_4, q153_6, q153_9, q153_11, q153_12, q153_13, gF0, gF1, gF2, gF3, gF4, gF5, gF6, gF7, gF8, gF9, gF10, gF11, gF12, gF13, gF14, gF15, gF16, gF17, gF18, gF19, pF0, pF1, pF2, pF3, pF4, pF5, pF6, pF7, pF8, pF9, pF10, pF11, pF12, pF13, pF14, pF15, pF16, pF17, pF18, pF19, aI_mk, aL_mk, aA_mk, sI_mk, sL_mk, sA_mk, isO_mk, rl_some, rl_none, true_and, and_true, true_or, or_true, wr_1, if_true, h2, oM]
    obtain ⟨l1, l2, l3, l4, l5, l6⟩ := ls
    refine d98 D2 (by rw [l2]; exact hs) (fun w3 m3 f3 D3 r3 => ?_)
    obtain ⟨r1, r2, r4, r5, r6, r7, r8⟩ := r3
    have D4 : isM w3 (m3.s_T m3.pa m3.le m3.ri m3.re m3.rs) := by
      rw [t_T_self]
      exact D3
    have h4 := D4.T0.1
    have D5 := D4.T1 (nI 0) m3.le m3.ri m3.re m3.rs
    have D6 : isM (wr w3 51 (.inr (6, [.ref 52, .ref 53, .int (nI m3.st), .ref 54, .ref 55, .int (nI m3.ty), .int (nI 0), .int m3.le, .int m3.ri, .int m3.re, .int m3.rs, .ref 56, .int m3.wr, .int m3.wd, .ref 57, .ref 58, .long m3.be, .ref 59, .long m3.up, .long m3.dn]))) ((m3.s_df m3.df).s_T (nI 0) m3.le m3.ri m3.re m3.rs) := by
      rw [t_df_self]
      exact D5
    obtain ⟨o1, o2⟩ := dO_112 (d' := m3.df) (fun z hz => by rw [r1]; exact hd z hz) v
    have ecf : m3.cf = m.cf := r2.trans l3
    have R := l153 (b := b) (Q := Q) (m := m3) (len := len) (by rw [r4, l4, hl]) h80 80 _ m3.df n dd 0 0 _ _ _ _ (by omega) (by omega) (o1.tr E) o2 (by rw [ecf]; exact r) D6 (fun w7 d7 n7 p7 le7 ri7 re7 f7 D7 e7 v7 => by
      rw [ecf] at e7 ⊢
      refine K w7 _ n7 r ((f2.tr f3).tr ((fr.wr (by omega) (by omega)).tr f7)) D7 ?_ ?_ ?_
      · simp only [s_T_df, s_df_df]
        exact e7
      · simp only [s_T_df, s_df_df]
        exact v7
      · unfold rkM
        simp only [s_T_cf, s_T_ty, s_T_wr, s_T_wd, s_T_st, s_T_wf, s_df_cf, s_df_ty, s_df_wr, s_df_wd, s_df_st, s_df_wf]
        refine ⟨ecf, r4.trans l4, r5.trans l5, r6.trans l6, by rw [r7, l2], fun j hj q hq => ?_⟩
        rw [r8 j hj q hq, l1, l2, hd q hq])
    simp only [q153_16, q153_17, q153_18, q153_19, q153_20, gF0, gF1, gF2, gF3, gF4, gF5, gF6, gF7, gF8, gF9, gF10, gF11, gF12, gF13, gF14, gF15, gF16, gF17, gF18, gF19, pF0, pF1, pF2, pF3, pF4, pF5, pF6, pF7, pF8, pF9, pF10, pF11, pF12, pF13, pF14, pF15, pF16, pF17, pF18, pF19, aI_mk, aL_mk, aA_mk, sI_mk, sL_mk, sA_mk, isO_mk, rl_some, rl_none, true_and, and_true, true_or, or_true, wr_1, h4]
    exact R
  · have KK := K0 w2 m2 r f2 D2 hd ls
    obtain ⟨y1, y2, -⟩ := k2 r
    have hn := nI_nf (p := (rnF m.cf len 80 dd 0 0).2.2.1) (by omega)
    rw [y1]
    simp only [q153_4, q153_6, q153_9, q153_11, gF0, gF1, gF2, gF3, gF4, gF5, gF6, gF7, gF8, gF9, gF10, gF11, gF12, gF13, gF14, gF15, gF16, gF17, gF18, gF19, pF0, pF1, pF2, pF3, pF4, pF5, pF6, pF7, pF8, pF9, pF10, pF11, pF12, pF13, pF14, pF15, pF16, pF17, pF18, pF19, aI_mk, aL_mk, aA_mk, sI_mk, sL_mk, sA_mk, isO_mk, rl_some, rl_none, true_and, and_true, true_or, or_true, wr_1, hn, if_false]
    exact KK
end MRJ
