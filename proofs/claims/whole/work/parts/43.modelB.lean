/-- a state of the reference with the design before it put into its history -/
def rcM (m m2 : xM) : Prop := m2.df = m.df ∧ m2.cf = m.cf ∧ m2.ty = m.ty ∧ m2.wr = m.wr ∧ m2.wd = m.wd ∧ m2.st = (if m.st = 5 then 5 else m.st + 1) ∧ ∀ j, j < m2.st → ∀ q, q < 112 → m2.wf (112 * j + q) = if j + 1 = m2.st then m.df q else if m.st = 5 then m.wf (112 * (j + 1) + q) else m.wf (112 * j + q)
theorem x_012 {s : Int32} (h : 0 ≤ s ∧ s ≤ 2) : s = 0 ∨ s = 1 ∨ s = 2 := by
  obtain ⟨h1, h2⟩ := h
  rw [Int32.le_iff_toInt_le, show (0 : Int32).toInt = 0 from rfl] at h1
  rw [Int32.le_iff_toInt_le, show (2 : Int32).toInt = 2 from rfl] at h2
  have : s.toInt = 0 ∨ s.toInt = 1 ∨ s.toInt = 2 := by omega
  rcases this with q | q | q
  · exact Or.inl (Int32.toInt_inj.mp q)
  · exact Or.inr (Or.inl (Int32.toInt_inj.mp q))
  · exact Or.inr (Or.inr (Int32.toInt_inj.mp q))
/-- a setting's place and value -/
def okS (s x : Int32) : Prop := (s = 0 ∧ -100000 ≤ x ∧ x ≤ 100000) ∨ (s = 1 ∧ 0 ≤ x ∧ x ≤ 1) ∨ (s = 2 ∧ 0 ≤ x ∧ x ≤ 100000)
def adF (d : Nat → Int32) (n : Nat) (x y : Int32) : Nat → Int32 := upd (upd (upd (upd d (4 + n) x) (16 + n) y) (28 + n) 0) 3 (nI (n + 1))
def tcF (d : Nat → Int32) (i t : Nat) (x : Int32) : Nat → Int32 := upd (upd d (40 + (6 * i + t)) x) (28 + i) (nI (t + 1))
section MRB
variable {b : Nat} {m : xM} {n U : Nat} {Q : Option Value → xW → Prop}
theorem d98 {w : xW} (D : isM w m) (hs : m.st ≤ 5) (K : ∀ w2 m2, fr w w2 51 60 → isM w2 m2 → rcM m m2 → Q none w2) : Wp 98 b 0 [.ref 51, x_no] [] w Q := by
  refine c98 D hs (fun w2 wf2 st2 e2 D2 E1 E2 => K w2 _ e2 D2 ?_)
  unfold rcM
  simp only [s_st_df, s_st_cf, s_st_ty, s_st_wr, s_st_wd, s_st_st, s_st_wf, s_wf_df, s_wf_cf, s_wf_ty, s_wf_wr, s_wf_wd, s_wf_wf]
  exact ⟨trivial, trivial, trivial, trivial, trivial, E1, E2⟩
theorem c113 {w : xW} (D : isM w m) (v0 : m.df 3 = nI n) (hn : n < 12) {x y : Int32} (K : ∀ w2, fr w w2 51 60 → isM w2 (m.s_df (adF m.df n x y)) → Q (some (.int (nI n))) w2) : Wp 113 b 0 [.ref 51, .int x, .int y, x_no] [] w Q := by
  rw [← t_df_self (m := m)] at D
  obtain ⟨h0, h1, -, -⟩ := D.df0
  have g3 : ∀ f x y z, upd (upd (upd f (4 + n) x) (16 + n) y) (28 + n) z 3 = f 3 := fun f x y z => by rw [pk_un (by omega), pk_un (by omega), pk_un (by omega)]
  have D2 := (((D.df1 (g := upd m.df (4 + n) x)).df1 (g := upd (upd m.df (4 + n) x) (16 + n) y)).df1 (g := upd (upd (upd m.df (4 + n) x) (16 + n) y) (28 + n) 0)).df1 (g := adF m.df n x y)
  have K1 := K _ (((fr.wr (by omega) (by omega)).tr (fr.wr (by omega) (by omega))).tr ((fr.wr (by omega) (by omega)).tr (fr.wr (by omega) (by omega)))) D2
  have n51 : ¬ 51 = 52 := by omega
  simp only [q113_0, q113_1, q113_4, q113_5, q113_6, q113_7, q113_8, q113_11, q113_12, q113_13, q113_14, q113_15, q113_16, q113_17, q113_20, q113_22, q113_23, q113_24, q113_25, q113_26, q113_27, q113_30, q113_32, q113_33, q113_34, q113_35, q113_36, q113_37, q113_40, q113_41, q113_42, q113_43, q113_44, q113_45, q113_46, q113_47, gF0, gF1, gF2, gF3, gF4, gF5, gF6, gF7, gF8, gF9, gF10, gF11, gF12, gF13, gF14, gF15, gF16, gF17, gF18, gF19, pF0, pF1, pF2, pF3, pF4, pF5, pF6, pF7, pF8, pF9, pF10, pF11, pF12, pF13, pF14, pF15, pF16, pF17, pF18, pF19, aI_mk, aL_mk, aA_mk, sI_mk, sL_mk, sA_mk, isO_mk, rl_some, rl_none, true_and, and_true, true_or, or_true, wr_1, h0, oM, h1, p112, Int32.reduceToNatClampNeg, v0, ix4 hn, ix16 hn, ix28 hn, rd_wr, if_true, n51, if_false, g3, nI_1]
  exact K1
theorem c116 {w : xW} (D : isM w m) {i t : Nat} (hi : i < 12) (ht : m.df (28 + i) = nI t) (ht6 : t < 6) {x : Int32} (K : ∀ w2, fr w w2 51 60 → isM w2 (m.s_df (tcF m.df i t x)) → Q (some (.int (nI t))) w2) : Wp 116 b 0 [.ref 51, .int (nI i), .int x] [] w Q := by
  rw [← t_df_self (m := m)] at D
  obtain ⟨h0, h1, -, -⟩ := D.df0
  have g3 : upd m.df (40 + (6 * i + t)) x (28 + i) = nI t := by rw [pk_un (by omega), ht]
  have e4 : upd (upd m.df (40 + (6 * i + t)) x) (28 + i) (nI (t + 1)) (28 + i) = nI (t + 1) := pk_us
  have D2 := (D.df1 (g := upd m.df (40 + (6 * i + t)) x)).df1 (g := tcF m.df i t x)
  have K1 := K _ ((fr.wr (by omega) (by omega)).tr (fr.wr (by omega) (by omega))) D2
  have n51 : ¬ 51 = 52 := by omega
  have e5 : nI (t + 1) - 1 = nI t := nI_pred t
  simp only [q116_0, q116_1, q116_4, q116_6, q116_8, q116_9, q116_10, q116_11, q116_12, q116_15, q116_17, q116_18, q116_19, q116_20, q116_21, q116_22, q116_23, q116_24, q116_27, q116_29, q116_30, q116_31, q116_32, q116_33, q116_34, q116_35, q116_36, q116_37, q116_40, q116_42, q116_43, q116_44, q116_45, q116_46, q116_47, gF0, gF1, gF2, gF3, gF4, gF5, gF6, gF7, gF8, gF9, gF10, gF11, gF12, gF13, gF14, gF15, gF16, gF17, gF18, gF19, pF0, pF1, pF2, pF3, pF4, pF5, pF6, pF7, pF8, pF9, pF10, pF11, pF12, pF13, pF14, pF15, pF16, pF17, pF18, pF19, aI_mk, aL_mk, aA_mk, sI_mk, sL_mk, sA_mk, isO_mk, rl_some, rl_none, true_and, and_true, true_or, or_true, wr_1, h0, oM, h1, ht, ix28 hi, ix40 hi ht6, rd_wr, if_true, n51, if_false, g3, nI_1, e4, e5]
  exact K1
theorem c111 {w : xW} (D : isM w m) (hs : m.st ≤ 5) {s x : Int32} (K0 : ¬ okS s x → Q (some (.int (-2000000001))) w) (K : ∀ w2 m2, okS s x → fr w w2 51 60 → rcM m m2 → isM w2 (m2.s_df (upd m.df s.toNatClampNeg x)) → Q (some (.int (m.df s.toNatClampNeg))) w2) : Wp 111 b 0 [.ref 51, .int s, .int x, x_no] [] w Q := by
  have h0 := D.1
  have G : x_pl s 112 → okS s x → Wp 111 b 40 [.ref 51, .int s, .int x, x_no] [] w Q := by
    intro hx ok
    simp only [q111_40, gF0, gF1, gF2, gF3, gF4, gF5, gF6, gF7, gF8, gF9, gF10, gF11, gF12, gF13, gF14, gF15, gF16, gF17, gF18, gF19, pF0, pF1, pF2, pF3, pF4, pF5, pF6, pF7, pF8, pF9, pF10, pF11, pF12, pF13, pF14, pF15, pF16, pF17, pF18, pF19, aI_mk, aL_mk, aA_mk, sI_mk, sL_mk, sA_mk, isO_mk, rl_some, rl_none, true_and, and_true, true_or, or_true, wr_1, h0, oM]
    simp only [q111_41, gF0, gF1, gF2, gF3, gF4, gF5, gF6, gF7, gF8, gF9, gF10, gF11, gF12, gF13, gF14, gF15, gF16, gF17, gF18, gF19, pF0, pF1, pF2, pF3, pF4, pF5, pF6, pF7, pF8, pF9, pF10, pF11, pF12, pF13, pF14, pF15, pF16, pF17, pF18, pF19, aI_mk, aL_mk, aA_mk, sI_mk, sL_mk, sA_mk, isO_mk, rl_some, rl_none, true_and, and_true, true_or, or_true, wr_1, h0, oM]
    refine d98 D hs (fun w2 m2 e2 D2 r2 => ?_)
    rw [← t_df_self (m := m2)] at D2
    obtain ⟨h2, h3, -, -⟩ := D2.df0
    have D3 := D2.df1 (g := upd m.df s.toNatClampNeg x)
    have K1 := K _ m2 ok (e2.tr (fr.wr (by omega) (by omega))) r2 D3
    have ed : m2.df = m.df := r2.1
    rw [ed] at h3
    simp only [q111_44, q111_45, q111_48, q111_49, q111_50, q111_51, q111_52, q111_55, q111_56, q111_57, q111_58, q111_59, gF0, gF1, gF2, gF3, gF4, gF5, gF6, gF7, gF8, gF9, gF10, gF11, gF12, gF13, gF14, gF15, gF16, gF17, gF18, gF19, pF0, pF1, pF2, pF3, pF4, pF5, pF6, pF7, pF8, pF9, pF10, pF11, pF12, pF13, pF14, pF15, pF16, pF17, pF18, pF19, aI_mk, aL_mk, aA_mk, sI_mk, sL_mk, sA_mk, isO_mk, rl_some, rl_none, true_and, and_true, true_or, or_true, wr_1, h2, oM, h3, hx]
    exact K1
  have z1 : ¬ (1 : Int32) = 0 := by decide
  by_cases c : 0 ≤ s ∧ s ≤ 2
  · rcases x_012 c with rfl | rfl | rfl
    · by_cases d : -100000 ≤ x ∧ x ≤ 100000
      · have G1 := G (x_pl_nI (j := 0) (by omega) (by omega)) (Or.inl ⟨rfl, d.1, d.2⟩)
        have n1 : ¬ (0 : Int32) = 1 := by decide
        simp only [q111_0, q111_1, q111_2, q111_3, q111_6, q111_9, q111_10, q111_11, q111_14, q111_16, q111_19, q111_20, q111_21, q111_22, q111_25, q111_26, q111_29, q111_31, q111_34, gF0, gF1, gF2, gF3, gF4, gF5, gF6, gF7, gF8, gF9, gF10, gF11, gF12, gF13, gF14, gF15, gF16, gF17, gF18, gF19, pF0, pF1, pF2, pF3, pF4, pF5, pF6, pF7, pF8, pF9, pF10, pF11, pF12, pF13, pF14, pF15, pF16, pF17, pF18, pF19, aI_mk, aL_mk, aA_mk, sI_mk, sL_mk, sA_mk, isO_mk, rl_some, rl_none, true_and, and_true, true_or, or_true, wr_1, c93, bI_t c, bI_t d, z1, n1, not_true, not_false_eq_true, if_true, if_false]
        exact G1
      · have n1 : ¬ (0 : Int32) = 1 := by decide
        have n2 : ¬ (0 : Int32) = 2 := by decide
        simp only [q111_0, q111_1, q111_2, q111_3, q111_6, q111_9, q111_10, q111_11, q111_14, q111_16, q111_19, q111_20, q111_21, q111_22, q111_25, q111_26, q111_29, q111_31, q111_34, q111_37, q111_39, gF0, gF1, gF2, gF3, gF4, gF5, gF6, gF7, gF8, gF9, gF10, gF11, gF12, gF13, gF14, gF15, gF16, gF17, gF18, gF19, pF0, pF1, pF2, pF3, pF4, pF5, pF6, pF7, pF8, pF9, pF10, pF11, pF12, pF13, pF14, pF15, pF16, pF17, pF18, pF19, aI_mk, aL_mk, aA_mk, sI_mk, sL_mk, sA_mk, isO_mk, rl_some, rl_none, true_and, and_true, true_or, or_true, wr_1, c93, bI_t c, bI_f d, z1, n1, not_true, not_false_eq_true, if_true, if_false]
        exact K0 (fun q => q.elim (fun q => d q.2) (fun q => q.elim (fun q => n1 q.1) (fun q => n2 q.1)))
    · by_cases d : 0 ≤ x ∧ x ≤ 1
      · have G1 := G (x_pl_nI (j := 1) (by omega) (by omega)) (Or.inr (Or.inl ⟨rfl, d.1, d.2⟩))
        simp only [q111_0, q111_1, q111_2, q111_3, q111_6, q111_9, q111_10, q111_11, q111_14, q111_16, q111_19, q111_20, q111_21, q111_22, q111_25, q111_26, q111_29, q111_31, q111_34, gF0, gF1, gF2, gF3, gF4, gF5, gF6, gF7, gF8, gF9, gF10, gF11, gF12, gF13, gF14, gF15, gF16, gF17, gF18, gF19, pF0, pF1, pF2, pF3, pF4, pF5, pF6, pF7, pF8, pF9, pF10, pF11, pF12, pF13, pF14, pF15, pF16, pF17, pF18, pF19, aI_mk, aL_mk, aA_mk, sI_mk, sL_mk, sA_mk, isO_mk, rl_some, rl_none, true_and, and_true, true_or, or_true, wr_1, c93, bI_t c, bI_t d, z1, not_true, not_false_eq_true, if_true, if_false]
        exact G1
      · have n2 : ¬ (1 : Int32) = 2 := by decide
        simp only [q111_0, q111_1, q111_2, q111_3, q111_6, q111_9, q111_10, q111_11, q111_14, q111_16, q111_19, q111_20, q111_21, q111_22, q111_25, q111_26, q111_29, q111_31, q111_34, q111_37, q111_39, gF0, gF1, gF2, gF3, gF4, gF5, gF6, gF7, gF8, gF9, gF10, gF11, gF12, gF13, gF14, gF15, gF16, gF17, gF18, gF19, pF0, pF1, pF2, pF3, pF4, pF5, pF6, pF7, pF8, pF9, pF10, pF11, pF12, pF13, pF14, pF15, pF16, pF17, pF18, pF19, aI_mk, aL_mk, aA_mk, sI_mk, sL_mk, sA_mk, isO_mk, rl_some, rl_none, true_and, and_true, true_or, or_true, wr_1, c93, bI_t c, bI_f d, z1, not_true, not_false_eq_true, if_true, if_false]
        exact K0 (fun q => q.elim (fun q => z1 q.1) (fun q => q.elim (fun q => d q.2) (fun q => n2 q.1)))
    · have n1 : ¬ (2 : Int32) = 1 := by decide
      have n2 : ¬ (2 : Int32) = 0 := by decide
      by_cases d : 0 ≤ x ∧ x ≤ 100000
      · have G1 := G (x_pl_nI (j := 2) (by omega) (by omega)) (Or.inr (Or.inr ⟨rfl, d.1, d.2⟩))
        simp only [q111_0, q111_1, q111_2, q111_3, q111_6, q111_9, q111_10, q111_11, q111_14, q111_16, q111_19, q111_20, q111_21, q111_22, q111_25, q111_26, q111_29, q111_31, q111_34, gF0, gF1, gF2, gF3, gF4, gF5, gF6, gF7, gF8, gF9, gF10, gF11, gF12, gF13, gF14, gF15, gF16, gF17, gF18, gF19, pF0, pF1, pF2, pF3, pF4, pF5, pF6, pF7, pF8, pF9, pF10, pF11, pF12, pF13, pF14, pF15, pF16, pF17, pF18, pF19, aI_mk, aL_mk, aA_mk, sI_mk, sL_mk, sA_mk, isO_mk, rl_some, rl_none, true_and, and_true, true_or, or_true, wr_1, c93, bI_t c, bI_t d, z1, n1, n2, not_true, not_false_eq_true, if_true, if_false]
        exact G1
      · simp only [q111_0, q111_1, q111_2, q111_3, q111_6, q111_9, q111_10, q111_11, q111_14, q111_16, q111_19, q111_20, q111_21, q111_22, q111_25, q111_26, q111_29, q111_31, q111_34, q111_37, q111_39, gF0, gF1, gF2, gF3, gF4, gF5, gF6, gF7, gF8, gF9, gF10, gF11, gF12, gF13, gF14, gF15, gF16, gF17, gF18, gF19, pF0, pF1, pF2, pF3, pF4, pF5, pF6, pF7, pF8, pF9, pF10, pF11, pF12, pF13, pF14, pF15, pF16, pF17, pF18, pF19, aI_mk, aL_mk, aA_mk, sI_mk, sL_mk, sA_mk, isO_mk, rl_some, rl_none, true_and, and_true, true_or, or_true, wr_1, c93, bI_t c, bI_f d, z1, n1, n2, not_true, not_false_eq_true, if_true, if_false]
        exact K0 (fun q => q.elim (fun q => n2 q.1) (fun q => q.elim (fun q => n1 q.1) (fun q => d q.2)))
  · simp only [q111_0, q111_1, q111_2, q111_3, q111_6, q111_37, q111_39, gF0, gF1, gF2, gF3, gF4, gF5, gF6, gF7, gF8, gF9, gF10, gF11, gF12, gF13, gF14, gF15, gF16, gF17, gF18, gF19, pF0, pF1, pF2, pF3, pF4, pF5, pF6, pF7, pF8, pF9, pF10, pF11, pF12, pF13, pF14, pF15, pF16, pF17, pF18, pF19, aI_mk, aL_mk, aA_mk, sI_mk, sL_mk, sA_mk, isO_mk, rl_some, rl_none, true_and, and_true, true_or, or_true, wr_1, c93, bI_f c, if_true]
    refine K0 (fun q => c ?_)
    rcases q with ⟨rfl, -⟩ | ⟨rfl, -⟩ | ⟨rfl, -⟩ <;> decide
/-- a row may be added -/
abbrev okA (x y : Int32) : Prop := (1 ≤ x ∧ x ≤ 31) ∧ (1 ≤ y ∧ y ≤ 31) ∧ x &&& y = 0
theorem c114 {w : xW} (D : isM w m) (v : vM m.df n) (hs : m.st ≤ 5) {x y : Int32} (K0 : ¬ okA x y → Q (some (.int (-2000000001))) w) (K1 : okA x y → ¬ fndN (fun j => decide (lD m.df j = x ∧ rD m.df j = y)) n 0 = -1 → Q (some (.int (-2000000002))) w) (K2 : okA x y → fndN (fun j => decide (lD m.df j = x ∧ rD m.df j = y)) n 0 = -1 → n = 12 → Q (some (.int (-2000000003))) w) (K : ∀ w2 m2, okA x y → fndN (fun j => decide (lD m.df j = x ∧ rD m.df j = y)) n 0 = -1 → n < 12 → fr w w2 51 60 → rcM m m2 → isM w2 (m2.s_df (adF m.df n x y)) → Q (some (.int (nI n))) w2) : Wp 114 b 0 [.ref 51, .int x, .int y] [] w Q := by
  have h0 := D.1
  have h1 := D.2.1
  have v0 := v.1
  have hn := v.2.1
  have z1 : ¬ (1 : Int32) = 0 := by decide
  have e12 : nI n = 12 ↔ n = 12 := nI_eq' (b := 12) (by omega) (by omega)
  by_cases c1 : 1 ≤ x ∧ x ≤ 31
  · by_cases c2 : 1 ≤ y ∧ y ≤ 31
    · by_cases c3 : x &&& y = 0
      · by_cases c4 : fndN (fun j => decide (lD m.df j = x ∧ rD m.df j = y)) n 0 = -1
        · by_cases c5 : n = 12
          · have := K2 ⟨c1, c2, c3⟩ c4 c5
            have e12' := e12.mpr c5
            simp only [q114_0, q114_1, q114_4, q114_7, q114_8, q114_11, q114_14, q114_15, q114_16, q114_17, q114_20, q114_22, q114_23, q114_24, q114_25, q114_26, q114_29, q114_30, q114_33, q114_35, q114_36, q114_37, q114_40, q114_41, q114_42, q114_44, q114_47, q114_49, gF0, gF1, gF2, gF3, gF4, gF5, gF6, gF7, gF8, gF9, gF10, gF11, gF12, gF13, gF14, gF15, gF16, gF17, gF18, gF19, pF0, pF1, pF2, pF3, pF4, pF5, pF6, pF7, pF8, pF9, pF10, pF11, pF12, pF13, pF14, pF15, pF16, pF17, pF18, pF19, aI_mk, aL_mk, aA_mk, sI_mk, sL_mk, sA_mk, isO_mk, rl_some, rl_none, true_and, and_true, true_or, or_true, wr_1, c96, bI_t c1, bI_t c2, z1, c3, if_false, if_true, h0, oM, h1, c112 D v, c4, p112, Int32.reduceToNatClampNeg, v0, e12', not_true, not_false_eq_true]
            exact this
          · simp only [q114_0, q114_1, q114_4, q114_7, q114_8, q114_11, q114_14, q114_15, q114_16, q114_17, q114_20, q114_22, q114_23, q114_24, q114_25, q114_26, q114_29, q114_30, q114_33, q114_35, q114_36, q114_37, q114_40, q114_41, q114_42, q114_44, q114_47, q114_49, q114_50, q114_51, gF0, gF1, gF2, gF3, gF4, gF5, gF6, gF7, gF8, gF9, gF10, gF11, gF12, gF13, gF14, gF15, gF16, gF17, gF18, gF19, pF0, pF1, pF2, pF3, pF4, pF5, pF6, pF7, pF8, pF9, pF10, pF11, pF12, pF13, pF14, pF15, pF16, pF17, pF18, pF19, aI_mk, aL_mk, aA_mk, sI_mk, sL_mk, sA_mk, isO_mk, rl_some, rl_none, true_and, and_true, true_or, or_true, wr_1, c96, bI_t c1, bI_t c2, z1, c3, if_false, if_true, h0, oM, h1, c112 D v, c4, p112, Int32.reduceToNatClampNeg, v0, e12, c5, not_true, not_false_eq_true]
            refine d98 D hs (fun w2 m2 e2 D2 r2 => ?_)
            have h2 := D2.1
            have ed : m2.df = m.df := r2.1
            simp only [q114_54, q114_55, q114_56, q114_57, gF0, gF1, gF2, gF3, gF4, gF5, gF6, gF7, gF8, gF9, gF10, gF11, gF12, gF13, gF14, gF15, gF16, gF17, gF18, gF19, pF0, pF1, pF2, pF3, pF4, pF5, pF6, pF7, pF8, pF9, pF10, pF11, pF12, pF13, pF14, pF15, pF16, pF17, pF18, pF19, aI_mk, aL_mk, aA_mk, sI_mk, sL_mk, sA_mk, isO_mk, rl_some, rl_none, true_and, and_true, true_or, or_true, wr_1, h2, oM]
            refine c113 D2 (n := n) (by rw [ed, v0]) (by omega) (fun w3 e3 D3 => ?_)
            rw [ed] at D3
            have := K w3 m2 ⟨c1, c2, c3⟩ c4 (by omega) (e2.tr e3) r2 D3
            simp only [q114_60, gF0, gF1, gF2, gF3, gF4, gF5, gF6, gF7, gF8, gF9, gF10, gF11, gF12, gF13, gF14, gF15, gF16, gF17, gF18, gF19, pF0, pF1, pF2, pF3, pF4, pF5, pF6, pF7, pF8, pF9, pF10, pF11, pF12, pF13, pF14, pF15, pF16, pF17, pF18, pF19, aI_mk, aL_mk, aA_mk, sI_mk, sL_mk, sA_mk, isO_mk, rl_some, rl_none, true_and, and_true, true_or, or_true, wr_1]
            exact this
        · have := K1 ⟨c1, c2, c3⟩ c4
          simp only [q114_0, q114_1, q114_4, q114_7, q114_8, q114_11, q114_14, q114_15, q114_16, q114_17, q114_20, q114_22, q114_23, q114_24, q114_25, q114_26, q114_29, q114_30, q114_33, q114_35, gF0, gF1, gF2, gF3, gF4, gF5, gF6, gF7, gF8, gF9, gF10, gF11, gF12, gF13, gF14, gF15, gF16, gF17, gF18, gF19, pF0, pF1, pF2, pF3, pF4, pF5, pF6, pF7, pF8, pF9, pF10, pF11, pF12, pF13, pF14, pF15, pF16, pF17, pF18, pF19, aI_mk, aL_mk, aA_mk, sI_mk, sL_mk, sA_mk, isO_mk, rl_some, rl_none, true_and, and_true, true_or, or_true, wr_1, c96, bI_t c1, bI_t c2, z1, c3, if_false, if_true, h0, oM, c112 D v, c4]
          exact this
      · have := K0 (fun q => c3 q.2.2)
        simp only [q114_0, q114_1, q114_4, q114_7, q114_8, q114_11, q114_14, q114_15, q114_16, q114_17, q114_20, q114_22, gF0, gF1, gF2, gF3, gF4, gF5, gF6, gF7, gF8, gF9, gF10, gF11, gF12, gF13, gF14, gF15, gF16, gF17, gF18, gF19, pF0, pF1, pF2, pF3, pF4, pF5, pF6, pF7, pF8, pF9, pF10, pF11, pF12, pF13, pF14, pF15, pF16, pF17, pF18, pF19, aI_mk, aL_mk, aA_mk, sI_mk, sL_mk, sA_mk, isO_mk, rl_some, rl_none, true_and, and_true, true_or, or_true, wr_1, c96, bI_t c1, bI_t c2, z1, c3, if_false, if_true]
        exact this
    · have := K0 (fun q => c2 q.2.1)
      simp only [q114_0, q114_1, q114_4, q114_7, q114_8, q114_11, q114_14, q114_15, q114_16, q114_17, q114_20, q114_22, gF0, gF1, gF2, gF3, gF4, gF5, gF6, gF7, gF8, gF9, gF10, gF11, gF12, gF13, gF14, gF15, gF16, gF17, gF18, gF19, pF0, pF1, pF2, pF3, pF4, pF5, pF6, pF7, pF8, pF9, pF10, pF11, pF12, pF13, pF14, pF15, pF16, pF17, pF18, pF19, aI_mk, aL_mk, aA_mk, sI_mk, sL_mk, sA_mk, isO_mk, rl_some, rl_none, true_and, and_true, true_or, or_true, wr_1, c96, bI_t c1, bI_f c2, z1, if_false, if_true]
      exact this
  · have := K0 (fun q => c1 q.1)
    simp only [q114_0, q114_1, q114_4, q114_7, q114_8, q114_11, q114_14, q114_15, q114_16, q114_17, q114_20, q114_22, gF0, gF1, gF2, gF3, gF4, gF5, gF6, gF7, gF8, gF9, gF10, gF11, gF12, gF13, gF14, gF15, gF16, gF17, gF18, gF19, pF0, pF1, pF2, pF3, pF4, pF5, pF6, pF7, pF8, pF9, pF10, pF11, pF12, pF13, pF14, pF15, pF16, pF17, pF18, pF19, aI_mk, aL_mk, aA_mk, sI_mk, sL_mk, sA_mk, isO_mk, rl_some, rl_none, true_and, and_true, true_or, or_true, wr_1, c96, bI_f c1, if_true]
    exact this
end MRB
