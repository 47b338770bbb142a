/-! The class' texts -/
section FC
variable {w : xW} {b : Nat} {d : DD} {k len : Nat} {H : Nat → DD} {cf : Nat → Int32} {Q : Option Value → xW → Prop}
theorem c78 (C : cW w d k H cf len) (v : vC d k H cf len) {c : Int32} (K0 : ¬ (32 ≤ c ∧ c ≤ 126) → Q (some (.int (-2000000001))) w) (K1 : (32 ≤ c ∧ c ≤ 126) → len = 80 → Q (some (.int (-2000000003))) w) (K : ∀ w2, (32 ≤ c ∧ c ≤ 126) → len < 80 → fr w w2 0 51 → cW w2 d k H (upd cf len (vp_nar .char (c.toUInt32 % 65536).toInt32)) (len + 1) → Q (some (.int (nI (len + 1)))) w2) : Wp 78 b 0 [.ref 0, .int c] [] w Q := by
  have h0 := C.1
  have hl := v.2.2.2.1
  obtain ⟨l, r, a, nx, X⟩ := C.2.2.2.1
  obtain ⟨x0, x1⟩ := id X
  by_cases a1 : c < 32
  · have KK := K0 (fun q => absurd a1 (Int32.not_lt.mpr q.1))
    simp only [q78_0, q78_1, q78_3, q78_6, q78_7, q78_9, q78_12, q78_14, gF0, gF1, gF2, gF3, gF4, gF5, gF6, gF7, gF8, gF9, gF10, gF11, gF12, gF13, gF14, gF15, gF16, gF17, gF18, gF19, pF0, pF1, pF2, pF3, pF4, pF5, pF6, pF7, pF8, pF9, pF10, pF11, pF12, pF13, pF14, pF15, pF16, pF17, pF18, pF19, aI_mk, aL_mk, aA_mk, sI_mk, sL_mk, sA_mk, isO_mk, rl_some, rl_none, true_and, and_true, true_or, or_true, wr_1, a1, if_true]
    exact KK
  · by_cases a2 : c ≤ 126
    · have ok : 32 ≤ c ∧ c ≤ 126 := ⟨Int32.not_lt.mp a1, a2⟩
      by_cases a3 : len < 80
      · have a3' : nI len < 80 := (nI_lt' (b := 80) (by omega) (by omega)).mpr a3
        have hx : x_pl (nI len) 80 := x_pl_nI (by omega) (by omega)
        have hcl : (nI len).toNatClampNeg = len := cl_nI (by omega)
        have n1 : ¬ (33 : Nat) = 33 + 1 := by omega
        have KK := K (wr (wr w (33 + 1) (.inl (2, 80, .inl (upd cf len (vp_nar .char (c.toUInt32 % 65536).toInt32))))) 33 (.inr (3, [.ref (33 + 1), .int (nI (len + 1)), .int l, .int r, .int a, .int nx]))) ok a3 ((fr.wr (by omega) (by omega)).tr (fr.wr (by omega) (by omega))) (C.X (l2 := l) (r2 := r) (a2 := a) (nx2 := nx) ((fr.wr (by omega) (by omega)).tr (fr.wr (by omega) (by omega))) ⟨rd_s, by rw [rd_n (by omega), rd_s]⟩)
        simp only [q78_0, q78_1, q78_3, q78_6, q78_7, q78_9, q78_12, q78_14, q78_15, q78_16, q78_19, q78_22, q78_24, q78_27, q78_29, q78_30, q78_31, q78_34, q78_35, q78_36, q78_39, q78_40, q78_43, q78_46, q47_0, q47_1, q47_4, q47_5, q47_8, q47_9, q47_10, q47_11, q47_12, q47_15, q47_16, q47_17, q47_20, gF0, gF1, gF2, gF3, gF4, gF5, gF6, gF7, gF8, gF9, gF10, gF11, gF12, gF13, gF14, gF15, gF16, gF17, gF18, gF19, pF0, pF1, pF2, pF3, pF4, pF5, pF6, pF7, pF8, pF9, pF10, pF11, pF12, pF13, pF14, pF15, pF16, pF17, pF18, pF19, aI_mk, aL_mk, aA_mk, sI_mk, sL_mk, sA_mk, isO_mk, rl_some, rl_none, true_and, and_true, true_or, or_true, wr_1, a1, a2, a3', if_true, if_false, h0, oC, x0, x1, hx, hcl, rd_wr, n1, nI_1]
        have n2 : ¬ (0 : Nat) = 33 + 1 := by omega
        have n3 : ¬ (0 : Nat) = 33 := by omega
        have n4 : ¬ (33 + 1 : Nat) = 33 := by omega
        simp only [q78_39, q78_40, q78_43, q78_46, gF0, gF1, gF2, gF3, gF4, gF5, gF6, gF7, gF8, gF9, gF10, gF11, gF12, gF13, gF14, gF15, gF16, gF17, gF18, gF19, pF0, pF1, pF2, pF3, pF4, pF5, pF6, pF7, pF8, pF9, pF10, pF11, pF12, pF13, pF14, pF15, pF16, pF17, pF18, pF19, aI_mk, aL_mk, aA_mk, sI_mk, sL_mk, sA_mk, isO_mk, rl_some, rl_none, true_and, and_true, true_or, or_true, wr_1, if_true, if_false, h0, oC, x0, x1, rd_wr, n1, n2, n3, n4]
        exact KK
      · have a3' : ¬ nI len < 80 := fun q => a3 ((nI_lt' (b := 80) (by omega) (by omega)).mp q)
        have KK := K1 ok (by omega)
        simp only [q78_0, q78_1, q78_3, q78_6, q78_7, q78_9, q78_12, q78_14, q78_15, q78_16, q78_19, q78_22, q78_24, q78_27, q78_29, gF0, gF1, gF2, gF3, gF4, gF5, gF6, gF7, gF8, gF9, gF10, gF11, gF12, gF13, gF14, gF15, gF16, gF17, gF18, gF19, pF0, pF1, pF2, pF3, pF4, pF5, pF6, pF7, pF8, pF9, pF10, pF11, pF12, pF13, pF14, pF15, pF16, pF17, pF18, pF19, aI_mk, aL_mk, aA_mk, sI_mk, sL_mk, sA_mk, isO_mk, rl_some, rl_none, true_and, and_true, true_or, or_true, wr_1, a1, a2, a3', if_true, if_false, h0, oC, x0, x1]
        exact KK
    · have KK := K0 (fun q => a2 q.2)
      simp only [q78_0, q78_1, q78_3, q78_6, q78_7, q78_9, q78_12, q78_14, gF0, gF1, gF2, gF3, gF4, gF5, gF6, gF7, gF8, gF9, gF10, gF11, gF12, gF13, gF14, gF15, gF16, gF17, gF18, gF19, pF0, pF1, pF2, pF3, pF4, pF5, pF6, pF7, pF8, pF9, pF10, pF11, pF12, pF13, pF14, pF15, pF16, pF17, pF18, pF19, aI_mk, aL_mk, aA_mk, sI_mk, sL_mk, sA_mk, isO_mk, rl_some, rl_none, true_and, and_true, true_or, or_true, wr_1, a1, a2, if_false]
      exact KK
theorem c79 (C : cW w d k H cf len) (K : ∀ w2, fr w w2 0 51 → cW w2 d k H cf 0 → Q (some (.int (nI len))) w2) : Wp 79 b 0 [.ref 0, x_no] [] w Q := by
  have h0 := C.1
  obtain ⟨l, r, a, nx, X⟩ := C.2.2.2.1
  obtain ⟨x0, x1⟩ := id X
  have KK := K (wr w 33 (.inr (3, [.ref (33 + 1), .int (nI 0), .int l, .int r, .int a, .int nx]))) (fr.wr (by omega) (by omega)) (C.X (l2 := l) (r2 := r) (a2 := a) (nx2 := nx) (fr.wr (by omega) (by omega)) ⟨rd_s, by rw [rd_n (by omega)]; exact x1⟩)
  simp only [q79_0, q79_1, q79_4, q79_7, q79_8, q79_9, q79_12, q79_13, q79_16, q79_17, gF0, gF1, gF2, gF3, gF4, gF5, gF6, gF7, gF8, gF9, gF10, gF11, gF12, gF13, gF14, gF15, gF16, gF17, gF18, gF19, pF0, pF1, pF2, pF3, pF4, pF5, pF6, pF7, pF8, pF9, pF10, pF11, pF12, pF13, pF14, pF15, pF16, pF17, pF18, pF19, aI_mk, aL_mk, aA_mk, sI_mk, sL_mk, sA_mk, isO_mk, rl_some, rl_none, true_and, and_true, true_or, or_true, wr_1, h0, oC, x0]
  exact KK
/-- the trial's run over the text -/
theorem c55w (C : cW w d k H cf len) (v : vC d k H cf len) (K : ∀ w2 d1, eqD d1 d → fr w w2 33 41 → cW w2 d k H cf len → isR w2 35 (rnF cf len 80 d1 0 0).2.2.2 (rnF cf len 80 d1 0 0).2.2.1 (rnF cf len 80 d1 0 0).1 → isDD w2 36 (rnF cf len 80 d1 0 0).2.1 → vD (rnF cf len 80 d1 0 0).2.1 → Q none w2) : Wp 55 b 0 [.ref 35, .ref 33, .ref 1, x_no] [] w Q := by
  obtain ⟨l, r, a, nx, X⟩ := C.2.2.2.1
  obtain ⟨e, p, rs, dd, R, T⟩ := C.2.2.2.2.1
  refine c55 R T C.2.1 X v.2.2.2 v.1 (Or.inl (by omega)) (Or.inl (by omega)) (Or.inr (by omega)) (fun w2 d1 l2 r2 a2 nx2 E f1 f2 f3 R2 T2 V2 X2 => ?_)
  have f : fr w w2 33 41 := ⟨f2, f3, fun j hj => f1 j (by omega) (by omega)⟩
  exact K w2 d1 E f (C.T f X2 R2 T2) R2 T2 V2
theorem c80 (C : cW w d k H cf len) (v : vC d k H cf len) {t : Int32} (K0 : ¬ (0 ≤ t ∧ t ≤ 1) → Q (some (.int (-2000000001))) w) (K : ∀ w2 d1, (0 ≤ t ∧ t ≤ 1) → eqD d1 d → fr w w2 0 51 → cW w2 d k H cf len → Q (some (.int (if (rnF cf len 80 d1 0 0).1 = 0 then -2000000004 else if t = 0 then nI (rnF cf len 80 d1 0 0).2.2.1 else (rnF cf len 80 d1 0 0).1))) w2) : Wp 80 b 0 [.ref 0, .int t] [] w Q := by
  have h0 := C.1
  have h33 := C.o33
  have h35 := C.o35
  have G : (0 ≤ t ∧ t ≤ 1) → Wp 80 b 12 [.ref 0, .int t] [] w Q := by
    intro c
    simp only [q80_12, q80_13, q80_16, q80_17, q80_20, q80_21, q80_24, gF0, gF1, gF2, gF3, gF4, gF5, gF6, gF7, gF8, gF9, gF10, gF11, gF12, gF13, gF14, gF15, gF16, gF17, gF18, gF19, pF0, pF1, pF2, pF3, pF4, pF5, pF6, pF7, pF8, pF9, pF10, pF11, pF12, pF13, pF14, pF15, pF16, pF17, pF18, pF19, aI_mk, aL_mk, aA_mk, sI_mk, sL_mk, sA_mk, isO_mk, rl_some, rl_none, true_and, and_true, true_or, or_true, wr_1, h0, oC, h35]
    refine c55w C v (fun w2 d1 E f C2 R2 T2 V2 => ?_)
    have KK := K w2 d1 c E (f.up (by omega) (by omega)) C2
    have g0 := C2.1
    unfold isR at R2
    by_cases e : (rnF cf len 80 d1 0 0).1 = 0
    · rw [if_pos e] at KK
      simp only [q80_27, q80_28, q80_31, q80_34, q80_37, q80_39, gF0, gF1, gF2, gF3, gF4, gF5, gF6, gF7, gF8, gF9, gF10, gF11, gF12, gF13, gF14, gF15, gF16, gF17, gF18, gF19, pF0, pF1, pF2, pF3, pF4, pF5, pF6, pF7, pF8, pF9, pF10, pF11, pF12, pF13, pF14, pF15, pF16, pF17, pF18, pF19, aI_mk, aL_mk, aA_mk, sI_mk, sL_mk, sA_mk, isO_mk, rl_some, rl_none, true_and, and_true, true_or, or_true, wr_1, g0, oC, R2, e, not_true, if_false]
      exact KK
    · rw [if_neg e] at KK
      by_cases e2 : t = 0
      · rw [if_pos e2] at KK
        simp only [q80_27, q80_28, q80_31, q80_34, q80_37, q80_39, q80_40, q80_41, q80_44, q80_45, q80_48, q80_51, q80_54, q80_55, q80_58, q80_61, gF0, gF1, gF2, gF3, gF4, gF5, gF6, gF7, gF8, gF9, gF10, gF11, gF12, gF13, gF14, gF15, gF16, gF17, gF18, gF19, pF0, pF1, pF2, pF3, pF4, pF5, pF6, pF7, pF8, pF9, pF10, pF11, pF12, pF13, pF14, pF15, pF16, pF17, pF18, pF19, aI_mk, aL_mk, aA_mk, sI_mk, sL_mk, sA_mk, isO_mk, rl_some, rl_none, true_and, and_true, true_or, or_true, wr_1, g0, oC, R2, e, e2, not_true, not_false_eq_true, if_true, if_false]
        exact KK
      · rw [if_neg e2] at KK
        simp only [q80_27, q80_28, q80_31, q80_34, q80_37, q80_39, q80_40, q80_41, q80_44, q80_45, q80_48, q80_51, q80_54, q80_55, q80_58, q80_61, gF0, gF1, gF2, gF3, gF4, gF5, gF6, gF7, gF8, gF9, gF10, gF11, gF12, gF13, gF14, gF15, gF16, gF17, gF18, gF19, pF0, pF1, pF2, pF3, pF4, pF5, pF6, pF7, pF8, pF9, pF10, pF11, pF12, pF13, pF14, pF15, pF16, pF17, pF18, pF19, aI_mk, aL_mk, aA_mk, sI_mk, sL_mk, sA_mk, isO_mk, rl_some, rl_none, true_and, and_true, true_or, or_true, wr_1, g0, oC, R2, e, e2, not_false_eq_true, if_true]
        exact KK
  by_cases c0 : t = 0
  · have R := G (x_01.mpr (Or.inl c0))
    subst c0
    simp only [q80_0, q80_1, if_true]
    exact R
  · by_cases c1 : t = 1
    · have R := G (x_01.mpr (Or.inr c1))
      subst c1
      simp only [q80_0, q80_1, q80_4, q80_5, q80_6, c0, if_true, if_false]
      exact R
    · have KK := K0 (fun q => by
        rcases x_01.mp q with e | e
        · exact c0 e
        · exact c1 e)
      simp only [q80_0, q80_1, q80_4, q80_5, q80_6, q80_9, q80_11, c0, c1, if_false]
      exact KK
theorem c81 (C : cW w d k H cf len) (v : vC d k H cf len) (K0 : ∀ w2 d1, eqD d1 d → ¬ (rnF cf len 80 d1 0 0).1 = 0 → fr w w2 0 51 → cW w2 d k H cf len → Q (some (.int (-2000000002))) w2) (K : ∀ w2 d1 d2 k2 H2, eqD d1 d → (rnF cf len 80 d1 0 0).1 = 0 → fr w w2 0 51 → cW w2 d2 k2 H2 cf len → eqD d2 (rnF cf len 80 d1 0 0).2.1 → reC d k H k2 H2 → Q (some (.int (nI (rnF cf len 80 d1 0 0).2.2.2))) w2) : Wp 81 b 0 [.ref 0] [] w Q := by
  have h0 := C.1
  have h33 := C.o33
  have h35 := C.o35
  simp only [q81_0, q81_1, q81_4, q81_5, q81_8, q81_9, q81_12, gF0, gF1, gF2, gF3, gF4, gF5, gF6, gF7, gF8, gF9, gF10, gF11, gF12, gF13, gF14, gF15, gF16, gF17, gF18, gF19, pF0, pF1, pF2, pF3, pF4, pF5, pF6, pF7, pF8, pF9, pF10, pF11, pF12, pF13, pF14, pF15, pF16, pF17, pF18, pF19, aI_mk, aL_mk, aA_mk, sI_mk, sL_mk, sA_mk, isO_mk, rl_some, rl_none, true_and, and_true, true_or, or_true, wr_1, h0, oC, h35]
  refine c55w C v (fun w2 d1 E f C2 R2 T2 V2 => ?_)
  have g0 := C2.1
  have R2' := R2
  unfold isR at R2'
  by_cases e : (rnF cf len 80 d1 0 0).1 = 0
  · have g1 := C2.2.1.1
    have g6 := C2.o6
    simp only [q81_15, q81_16, q81_19, q81_22, q81_25, q81_27, q81_28, q81_29, q81_32, q81_33, q81_36, gF0, gF1, gF2, gF3, gF4, gF5, gF6, gF7, gF8, gF9, gF10, gF11, gF12, gF13, gF14, gF15, gF16, gF17, gF18, gF19, pF0, pF1, pF2, pF3, pF4, pF5, pF6, pF7, pF8, pF9, pF10, pF11, pF12, pF13, pF14, pF15, pF16, pF17, pF18, pF19, aI_mk, aL_mk, aA_mk, sI_mk, sL_mk, sA_mk, isO_mk, rl_some, rl_none, true_and, and_true, true_or, or_true, wr_1, g0, oC, R2', e, g1, g6, if_true]
    refine c27w C2 v (fun w3 k2 H2 f3 C3 rc => ?_)
    have k0 := C3.1
    have k1 := C3.2.1.1
    have R3 : rd w3 35 = _ := (f3.2.2 35 (by omega)).trans R2'
    have T3 : isDD w3 36 (rnF cf len 80 d1 0 0).2.1 := T2.fr f3 (by omega)
    simp only [q81_39, q81_40, q81_43, q81_44, q81_47, q81_50, gF0, gF1, gF2, gF3, gF4, gF5, gF6, gF7, gF8, gF9, gF10, gF11, gF12, gF13, gF14, gF15, gF16, gF17, gF18, gF19, pF0, pF1, pF2, pF3, pF4, pF5, pF6, pF7, pF8, pF9, pF10, pF11, pF12, pF13, pF14, pF15, pF16, pF17, pF18, pF19, aI_mk, aL_mk, aA_mk, sI_mk, sL_mk, sA_mk, isO_mk, rl_some, rl_none, true_and, and_true, true_or, or_true, wr_1, k0, oC, k1, R3]
    refine cc1 C3.2.1 T3 V2 (Or.inl (by omega)) (fun w4 d2 f4 D4 E4 => ?_)
    have C4 := C3.D f4 D4
    have R4 : rd w4 35 = _ := (f4.2.2 35 (by omega)).trans R3
    have l0 := C4.1
    have KK := K w4 d1 d2 k2 H2 E e ((f.up (by omega) (by omega)).tr ((f3.up (by omega) (by omega)).tr (f4.up (by omega) (by omega)))) C4 E4 rc
    simp only [q81_53, q81_54, q81_57, q81_60, gF0, gF1, gF2, gF3, gF4, gF5, gF6, gF7, gF8, gF9, gF10, gF11, gF12, gF13, gF14, gF15, gF16, gF17, gF18, gF19, pF0, pF1, pF2, pF3, pF4, pF5, pF6, pF7, pF8, pF9, pF10, pF11, pF12, pF13, pF14, pF15, pF16, pF17, pF18, pF19, aI_mk, aL_mk, aA_mk, sI_mk, sL_mk, sA_mk, isO_mk, rl_some, rl_none, true_and, and_true, true_or, or_true, wr_1, l0, oC, R4]
    exact KK
  · have KK := K0 w2 d1 E e (f.up (by omega) (by omega)) C2
    simp only [q81_15, q81_16, q81_19, q81_22, q81_25, q81_27, gF0, gF1, gF2, gF3, gF4, gF5, gF6, gF7, gF8, gF9, gF10, gF11, gF12, gF13, gF14, gF15, gF16, gF17, gF18, gF19, pF0, pF1, pF2, pF3, pF4, pF5, pF6, pF7, pF8, pF9, pF10, pF11, pF12, pF13, pF14, pF15, pF16, pF17, pF18, pF19, aI_mk, aL_mk, aA_mk, sI_mk, sL_mk, sA_mk, isO_mk, rl_some, rl_none, true_and, and_true, true_or, or_true, wr_1, g0, oC, R2', e, if_false]
    exact KK
end FC
