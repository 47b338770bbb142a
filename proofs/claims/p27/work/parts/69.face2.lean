/-! The class' changes -/
theorem cW.o6 {oo : Nat} {w : xW} {d : DD} {k len : Nat} {H : Nat → DD} {cf : Nat → Int32} (C : cW oo w d k H cf len) : rd w (oo + 6) = .inr (1, [.ref (oo + 7), .int (nI k)]) := by
  obtain ⟨-, -, ⟨K, a1, -⟩, -⟩ := C
  exact a1.1
theorem cW.o33 {oo : Nat} {w : xW} {d : DD} {k len : Nat} {H : Nat → DD} {cf : Nat → Int32} (C : cW oo w d k H cf len) : x_isO (rd w (oo + 33)) 3 := by
  obtain ⟨-, -, -, ⟨l, r, a, nx, X⟩, -⟩ := C
  exact ⟨_, X.1⟩
theorem cW.o35 {oo : Nat} {w : xW} {d : DD} {k len : Nat} {H : Nat → DD} {cf : Nat → Int32} (C : cW oo w d k H cf len) : x_isO (rd w (oo + 35)) 4 := by
  obtain ⟨-, -, -, -, ⟨e, p, rs, dd, R, T⟩, -⟩ := C
  exact ⟨_, R⟩
theorem cW.o41 {oo : Nat} {w : xW} {d : DD} {k len : Nat} {H : Nat → DD} {cf : Nat → Int32} (C : cW oo w d k H cf len) : x_isO (rd w (oo + 41)) 2 := by
  obtain ⟨-, -, -, -, -, ⟨u, det, N, S, M, V, Z⟩⟩ := C
  exact ⟨_, Z.1⟩
/-- a setting -/
def geD (d : DD) (s : Int32) : Int32 := if s = 0 then ds d else if s = 1 then dp d else dli d
def stD (d : DD) (s x : Int32) : DD := if s = 0 then ((x, dp d, dli d, dn d), d.2) else if s = 1 then ((ds d, x, dli d, dn d), d.2) else ((ds d, dp d, x, dn d), d.2)
/-- a row added, a row taken out, a reading taken -/
def apD (d : DD) (x y : Int32) : DD := ((ds d, dp d, dli d, dn d + 1), upd (dl d) (dn d) x, upd (dr d) (dn d) y, upd (dt d) (dn d) 0, dm d)
def dwD (d : DD) (i : Nat) : DD := ((ds d, dp d, dli d, dn d - 1), shF (dl d) i, shF (dr d) i, shF (dt d) i, shM (dm d) i)
def tkD (d : DD) (i : Nat) (x : Int32) : DD := (d.1, dl d, dr d, upd (dt d) i (nI (tkF (dt d) i + 1)), upd (dm d) (6 * i + tkF (dt d) i) x)
section FB
variable {oo : Nat} {w : xW} {b : Nat} {d : DD} {k len : Nat} {H : Nat → DD} {cf : Nat → Int32} {Q : Option Value → xW → Prop}
theorem c58 (C : cW oo w d k H cf len) (v : vC d k H cf len) {s x : Int32} (K0 : ¬ okS s x → Q (some (.int (-2000000001))) w) (K : ∀ w2 k2 H2, okS s x → fr w w2 oo (oo + 51) → cW oo w2 (stD d s x) k2 H2 cf len → reC d k H k2 H2 → Q (some (.int (geD d s))) w2) : Wp 58 b 0 [.ref oo, .int s, .int x, x_no] [] w Q := by
  have h0 := C.1
  have h6 := C.o6
  have z1 : ¬ (1 : Int32) = 0 := by decide
  simp only [q58_0, q58_1, q58_2]
  refine c82 (fun c => ?_) (fun c => ?_)
  · have := K0 c
    simp only [q58_5, q58_8, q58_10, gF0, gF1, gF2, gF3, gF4, gF5, gF6, gF7, gF8, gF9, gF10, gF11, gF12, gF13, gF14, gF15, gF16, gF17, gF18, gF19, pF0, pF1, pF2, pF3, pF4, pF5, pF6, pF7, pF8, pF9, pF10, pF11, pF12, pF13, pF14, pF15, pF16, pF17, pF18, pF19, aI_mk, aL_mk, aA_mk, sI_mk, sL_mk, sA_mk, isO_mk, rl_some, rl_none, true_and, and_true, true_or, or_true, wr_1, not_true, if_false]
    exact this
  · simp only [q58_5, q58_8, q58_10, q58_11, q58_12, q58_13, q58_16, q58_17, q58_18, q58_21, q58_22, q58_25, gF0, gF1, gF2, gF3, gF4, gF5, gF6, gF7, gF8, gF9, gF10, gF11, gF12, gF13, gF14, gF15, gF16, gF17, gF18, gF19, pF0, pF1, pF2, pF3, pF4, pF5, pF6, pF7, pF8, pF9, pF10, pF11, pF12, pF13, pF14, pF15, pF16, pF17, pF18, pF19, aI_mk, aL_mk, aA_mk, sI_mk, sL_mk, sA_mk, isO_mk, rl_some, rl_none, true_and, and_true, true_or, or_true, wr_1, z1, not_false_eq_true, if_true, c83 C, h0, oC, h6]
    refine c27w C v (fun w2 k2 H2 f C2 r => ?_)
    have g0 := C2.1
    have g1 := C2.2.1.1
    by_cases e : s = 0
    · have C3 := C2.D (d2 := stD d s x) (fr.wr (show oo + 1 ≤ oo + 1 by omega) (show oo + 1 < oo + 6 by omega)) (by unfold stD; rw [if_pos e]; exact isD.s0 (s' := x) (p' := dp d) (l' := dli d) (n' := dn d) C2.2.1)
      have KK := K _ k2 H2 c ((f.up (show oo ≤ oo + 6 by omega) (show oo + 33 ≤ oo + 51 by omega)).tr (fr.wr (show oo ≤ oo + 1 by omega) (show oo + 1 < oo + 51 by omega))) C3 r
      unfold geD at KK
      simp only [q58_28, q58_29, q58_32, q58_33, q58_36, q58_37, q58_40, q58_43, q58_44, q58_45, q58_48, q58_49, q58_52, q58_53, q58_56, q58_59, q58_60, q58_63, q58_64, q58_67, q58_68, gF0, gF1, gF2, gF3, gF4, gF5, gF6, gF7, gF8, gF9, gF10, gF11, gF12, gF13, gF14, gF15, gF16, gF17, gF18, gF19, pF0, pF1, pF2, pF3, pF4, pF5, pF6, pF7, pF8, pF9, pF10, pF11, pF12, pF13, pF14, pF15, pF16, pF17, pF18, pF19, aI_mk, aL_mk, aA_mk, sI_mk, sL_mk, sA_mk, isO_mk, rl_some, rl_none, true_and, and_true, true_or, or_true, wr_1, e, not_true, if_false, g0, oC, g1]
      rw [if_pos e] at KK
      exact KK
    · by_cases e2 : s = 1
      · have C3 := C2.D (d2 := stD d s x) (fr.wr (show oo + 1 ≤ oo + 1 by omega) (show oo + 1 < oo + 6 by omega)) (by unfold stD; rw [if_neg e, if_pos e2]; exact isD.s0 (s' := ds d) (p' := x) (l' := dli d) (n' := dn d) C2.2.1)
        have KK := K _ k2 H2 c ((f.up (show oo ≤ oo + 6 by omega) (show oo + 33 ≤ oo + 51 by omega)).tr (fr.wr (show oo ≤ oo + 1 by omega) (show oo + 1 < oo + 51 by omega))) C3 r
        unfold geD at KK
        rw [if_neg e, if_pos e2] at KK
        have e3 : ¬ (1 : Int32) = 0 := by decide
        simp only [q58_28, q58_29, q58_32, q58_33, q58_36, q58_37, q58_40, q58_43, q58_44, q58_45, q58_48, q58_49, q58_52, q58_53, q58_56, q58_59, q58_60, q58_63, q58_64, q58_67, q58_68, gF0, gF1, gF2, gF3, gF4, gF5, gF6, gF7, gF8, gF9, gF10, gF11, gF12, gF13, gF14, gF15, gF16, gF17, gF18, gF19, pF0, pF1, pF2, pF3, pF4, pF5, pF6, pF7, pF8, pF9, pF10, pF11, pF12, pF13, pF14, pF15, pF16, pF17, pF18, pF19, aI_mk, aL_mk, aA_mk, sI_mk, sL_mk, sA_mk, isO_mk, rl_some, rl_none, true_and, and_true, true_or, or_true, wr_1, e2, e3, not_true, not_false_eq_true, if_true, if_false, g0, oC, g1]
        exact KK
      · have C3 := C2.D (d2 := stD d s x) (fr.wr (show oo + 1 ≤ oo + 1 by omega) (show oo + 1 < oo + 6 by omega)) (by unfold stD; rw [if_neg e, if_neg e2]; exact isD.s0 (s' := ds d) (p' := dp d) (l' := x) (n' := dn d) C2.2.1)
        have KK := K _ k2 H2 c ((f.up (show oo ≤ oo + 6 by omega) (show oo + 33 ≤ oo + 51 by omega)).tr (fr.wr (show oo ≤ oo + 1 by omega) (show oo + 1 < oo + 51 by omega))) C3 r
        unfold geD at KK
        rw [if_neg e, if_neg e2] at KK
        simp only [q58_28, q58_29, q58_32, q58_33, q58_36, q58_37, q58_40, q58_43, q58_44, q58_45, q58_48, q58_49, q58_52, q58_53, q58_56, q58_59, q58_60, q58_63, q58_64, q58_67, q58_68, gF0, gF1, gF2, gF3, gF4, gF5, gF6, gF7, gF8, gF9, gF10, gF11, gF12, gF13, gF14, gF15, gF16, gF17, gF18, gF19, pF0, pF1, pF2, pF3, pF4, pF5, pF6, pF7, pF8, pF9, pF10, pF11, pF12, pF13, pF14, pF15, pF16, pF17, pF18, pF19, aI_mk, aL_mk, aA_mk, sI_mk, sL_mk, sA_mk, isO_mk, rl_some, rl_none, true_and, and_true, true_or, or_true, wr_1, e, e2, not_false_eq_true, if_true, if_false, g0, oC, g1]
        exact KK
theorem c59 (C : cW oo w d k H cf len) (v : vC d k H cf len) {x y : Int32} (K0 : ¬ okA x y → Q (some (.int (-2000000001))) w) (K1 : okA x y → ¬ fndN (fun j => decide (dl d j = x ∧ dr d j = y)) (dn d) 0 = -1 → Q (some (.int (-2000000002))) w) (K2 : okA x y → fndN (fun j => decide (dl d j = x ∧ dr d j = y)) (dn d) 0 = -1 → dn d = 12 → Q (some (.int (-2000000003))) w) (K : ∀ w2 k2 H2, okA x y → fndN (fun j => decide (dl d j = x ∧ dr d j = y)) (dn d) 0 = -1 → dn d < 12 → fr w w2 oo (oo + 51) → cW oo w2 (apD d x y) k2 H2 cf len → reC d k H k2 H2 → Q (some (.int (nI (dn d)))) w2) : Wp 59 b 0 [.ref oo, .int x, .int y] [] w Q := by
  have h0 := C.1
  have h1 := C.2.1.1
  have h6 := C.o6
  have hn : dn d ≤ 12 := v.1.1
  have z1 : ¬ (1 : Int32) = 0 := by decide
  by_cases a1 : 1 ≤ x ∧ x ≤ 31
  · by_cases a2 : 1 ≤ y ∧ y ≤ 31
    · by_cases a3 : x &&& y = 0
      · have ok : okA x y := ⟨a1, a2, a3⟩
        by_cases a4 : fndN (fun j => decide (dl d j = x ∧ dr d j = y)) (dn d) 0 = -1
        · by_cases a5 : dn d < 12
          · have a5' : nI (dn d) < 12 := (nI_lt' (b := 12) (by omega) (by omega)).mpr a5
            simp only [q59_0, q59_1, q59_4, q59_7, q59_8, q59_11, q59_14, q59_15, q59_16, q59_17, q59_20, q59_22, q59_23, q59_24, q59_27, q59_28, q59_29, q59_32, q59_33, q59_36, q59_38, q59_39, q59_40, q59_43, q59_46, q59_48, q59_51, q59_53, q59_54, q59_55, q59_58, q59_59, q59_62, gF0, gF1, gF2, gF3, gF4, gF5, gF6, gF7, gF8, gF9, gF10, gF11, gF12, gF13, gF14, gF15, gF16, gF17, gF18, gF19, pF0, pF1, pF2, pF3, pF4, pF5, pF6, pF7, pF8, pF9, pF10, pF11, pF12, pF13, pF14, pF15, pF16, pF17, pF18, pF19, aI_mk, aL_mk, aA_mk, sI_mk, sL_mk, sA_mk, isO_mk, rl_some, rl_none, true_and, and_true, true_or, or_true, wr_1, c85, bI_t a1, bI_t a2, z1, a3, a4, a5', not_true, if_true, if_false, h0, oC, h1, h6, c6 C.2.1 hn]
            refine c27w C v (fun w2 k2 H2 f C2 r => ?_)
            have g0 := C2.1
            have g1 := C2.2.1.1
            simp only [q59_65, q59_66, q59_69, q59_70, q59_71, gF0, gF1, gF2, gF3, gF4, gF5, gF6, gF7, gF8, gF9, gF10, gF11, gF12, gF13, gF14, gF15, gF16, gF17, gF18, gF19, pF0, pF1, pF2, pF3, pF4, pF5, pF6, pF7, pF8, pF9, pF10, pF11, pF12, pF13, pF14, pF15, pF16, pF17, pF18, pF19, aI_mk, aL_mk, aA_mk, sI_mk, sL_mk, sA_mk, isO_mk, rl_some, rl_none, true_and, and_true, true_or, or_true, wr_1, g0, oC, g1]
            refine c7 C2.2.1 a5 (fun w3 f3 D3 => ?_)
            have KK := K w3 k2 H2 ok a4 a5 ((f.up (by omega) (by omega)).tr (f3.up (by omega) (by omega))) (C2.D f3 (d2 := apD d x y) D3) r
            simp only [q59_74, gF0, gF1, gF2, gF3, gF4, gF5, gF6, gF7, gF8, gF9, gF10, gF11, gF12, gF13, gF14, gF15, gF16, gF17, gF18, gF19, pF0, pF1, pF2, pF3, pF4, pF5, pF6, pF7, pF8, pF9, pF10, pF11, pF12, pF13, pF14, pF15, pF16, pF17, pF18, pF19, aI_mk, aL_mk, aA_mk, sI_mk, sL_mk, sA_mk, isO_mk, rl_some, rl_none, true_and, and_true, true_or, or_true, wr_1]
            exact KK
          · have a5' : ¬ nI (dn d) < 12 := fun q => a5 ((nI_lt' (b := 12) (by omega) (by omega)).mp q)
            have KK := K2 ok a4 (by omega)
            simp only [q59_0, q59_1, q59_4, q59_7, q59_8, q59_11, q59_14, q59_15, q59_16, q59_17, q59_20, q59_22, q59_23, q59_24, q59_27, q59_28, q59_29, q59_32, q59_33, q59_36, q59_38, q59_39, q59_40, q59_43, q59_46, q59_48, q59_51, q59_53, gF0, gF1, gF2, gF3, gF4, gF5, gF6, gF7, gF8, gF9, gF10, gF11, gF12, gF13, gF14, gF15, gF16, gF17, gF18, gF19, pF0, pF1, pF2, pF3, pF4, pF5, pF6, pF7, pF8, pF9, pF10, pF11, pF12, pF13, pF14, pF15, pF16, pF17, pF18, pF19, aI_mk, aL_mk, aA_mk, sI_mk, sL_mk, sA_mk, isO_mk, rl_some, rl_none, true_and, and_true, true_or, or_true, wr_1, c85, bI_t a1, bI_t a2, z1, a3, a4, a5', not_true, if_true, if_false, h0, oC, h1, h6, c6 C.2.1 hn]
            exact KK
        · have KK := K1 ok a4
          simp only [q59_0, q59_1, q59_4, q59_7, q59_8, q59_11, q59_14, q59_15, q59_16, q59_17, q59_20, q59_22, q59_23, q59_24, q59_27, q59_28, q59_29, q59_32, q59_33, q59_36, q59_38, q59_39, q59_40, q59_43, q59_46, q59_48, q59_51, q59_53, gF0, gF1, gF2, gF3, gF4, gF5, gF6, gF7, gF8, gF9, gF10, gF11, gF12, gF13, gF14, gF15, gF16, gF17, gF18, gF19, pF0, pF1, pF2, pF3, pF4, pF5, pF6, pF7, pF8, pF9, pF10, pF11, pF12, pF13, pF14, pF15, pF16, pF17, pF18, pF19, aI_mk, aL_mk, aA_mk, sI_mk, sL_mk, sA_mk, isO_mk, rl_some, rl_none, true_and, and_true, true_or, or_true, wr_1, c85, bI_t a1, bI_t a2, z1, a3, a4, not_true, if_true, if_false, h0, oC, h1, h6, c6 C.2.1 hn]
          exact KK
      · have KK := K0 (fun q => a3 q.2.2)
        simp only [q59_0, q59_1, q59_4, q59_7, q59_8, q59_11, q59_14, q59_15, q59_16, q59_17, q59_20, q59_22, gF0, gF1, gF2, gF3, gF4, gF5, gF6, gF7, gF8, gF9, gF10, gF11, gF12, gF13, gF14, gF15, gF16, gF17, gF18, gF19, pF0, pF1, pF2, pF3, pF4, pF5, pF6, pF7, pF8, pF9, pF10, pF11, pF12, pF13, pF14, pF15, pF16, pF17, pF18, pF19, aI_mk, aL_mk, aA_mk, sI_mk, sL_mk, sA_mk, isO_mk, rl_some, rl_none, true_and, and_true, true_or, or_true, wr_1, c85, bI_t a1, bI_t a2, z1, a3, if_false]
        exact KK
    · have KK := K0 (fun q => a2 q.2.1)
      simp only [q59_0, q59_1, q59_4, q59_7, q59_8, q59_11, q59_14, q59_15, q59_16, q59_17, q59_20, q59_22, gF0, gF1, gF2, gF3, gF4, gF5, gF6, gF7, gF8, gF9, gF10, gF11, gF12, gF13, gF14, gF15, gF16, gF17, gF18, gF19, pF0, pF1, pF2, pF3, pF4, pF5, pF6, pF7, pF8, pF9, pF10, pF11, pF12, pF13, pF14, pF15, pF16, pF17, pF18, pF19, aI_mk, aL_mk, aA_mk, sI_mk, sL_mk, sA_mk, isO_mk, rl_some, rl_none, true_and, and_true, true_or, or_true, wr_1, c85, bI_t a1, bI_f a2, z1, if_true, if_false]
      exact KK
  · have KK := K0 (fun q => a1 q.1)
    simp only [q59_0, q59_1, q59_4, q59_7, q59_8, q59_11, q59_14, q59_15, q59_16, q59_17, q59_20, q59_22, gF0, gF1, gF2, gF3, gF4, gF5, gF6, gF7, gF8, gF9, gF10, gF11, gF12, gF13, gF14, gF15, gF16, gF17, gF18, gF19, pF0, pF1, pF2, pF3, pF4, pF5, pF6, pF7, pF8, pF9, pF10, pF11, pF12, pF13, pF14, pF15, pF16, pF17, pF18, pF19, aI_mk, aL_mk, aA_mk, sI_mk, sL_mk, sA_mk, isO_mk, rl_some, rl_none, true_and, and_true, true_or, or_true, wr_1, c85, bI_f a1, if_true]
    exact KK
theorem c61 (C : cW oo w d k H cf len) (v : vC d k H cf len) {r x : Int32} (K0 : ¬ ((¬ r < 0 ∧ r < nI (dn d)) ∧ -100000 ≤ x ∧ x ≤ 100000) → Q (some (.int (-2000000001))) w) (K1 : ∀ i, i < dn d → r = nI i → (-100000 ≤ x ∧ x ≤ 100000) → tkF (dt d) i = 6 → Q (some (.int (-2000000003))) w) (K : ∀ i w2 k2 H2, i < dn d → r = nI i → (-100000 ≤ x ∧ x ≤ 100000) → tkF (dt d) i < 6 → fr w w2 oo (oo + 51) → cW oo w2 (tkD d i x) k2 H2 cf len → reC d k H k2 H2 → Q (some (.int (nI (tkF (dt d) i)))) w2) : Wp 61 b 0 [.ref oo, .int r, .int x] [] w Q := by
  have h0 := C.1
  obtain ⟨h1, -, -, h4, -⟩ := C.2.1
  have h6 := C.o6
  have hn : dn d ≤ 12 := v.1.1
  have z1 : ¬ (1 : Int32) = 0 := by decide
  by_cases a1 : ¬ r < 0 ∧ r < nI (dn d)
  · by_cases a2 : -100000 ≤ x ∧ x ≤ 100000
    · obtain ⟨i, hi, er⟩ := row_of hn a1.1 a1.2
      obtain ⟨t1, t2⟩ : dt d i = nI (tkF (dt d) i) ∧ tkF (dt d) i ≤ 6 := v.1.2 i hi
      have b1 := bI_t a1
      subst er
      have hx : x_pl (nI i) 12 := x_pl_nI (by omega) (by omega)
      have hcl : (nI i).toNatClampNeg = i := cl_nI (by omega)
      by_cases a3 : tkF (dt d) i < 6
      · have a3' : nI (tkF (dt d) i) < 6 := (nI_lt' (b := 6) (by omega) (by omega)).mpr a3
        rw [← t1] at a3'
        simp only [q61_0, q61_1, q61_4, q61_5, q61_8, q61_11, q61_12, q61_15, q61_18, q61_20, q61_21, q61_22, q61_25, q61_28, q61_29, q61_30, q61_32, q61_35, q61_37, q61_38, q61_39, q61_42, q61_43, q61_46, gF0, gF1, gF2, gF3, gF4, gF5, gF6, gF7, gF8, gF9, gF10, gF11, gF12, gF13, gF14, gF15, gF16, gF17, gF18, gF19, pF0, pF1, pF2, pF3, pF4, pF5, pF6, pF7, pF8, pF9, pF10, pF11, pF12, pF13, pF14, pF15, pF16, pF17, pF18, pF19, aI_mk, aL_mk, aA_mk, sI_mk, sL_mk, sA_mk, isO_mk, rl_some, rl_none, true_and, and_true, true_or, or_true, wr_1, c3 C.2.1, b1, c84, bI_t a2, z1, not_false_eq_true, if_true, if_false, h0, oC, h1, h4, h6, hx, hcl, a3']
        refine c27w C v (fun w2 k2 H2 f C2 rc => ?_)
        have g0 := C2.1
        have g1 := C2.2.1.1
        simp only [q61_49, q61_50, q61_53, q61_54, q61_55, gF0, gF1, gF2, gF3, gF4, gF5, gF6, gF7, gF8, gF9, gF10, gF11, gF12, gF13, gF14, gF15, gF16, gF17, gF18, gF19, pF0, pF1, pF2, pF3, pF4, pF5, pF6, pF7, pF8, pF9, pF10, pF11, pF12, pF13, pF14, pF15, pF16, pF17, pF18, pF19, aI_mk, aL_mk, aA_mk, sI_mk, sL_mk, sA_mk, isO_mk, rl_some, rl_none, true_and, and_true, true_or, or_true, wr_1, g0, oC, g1]
        refine c9 C2.2.1 (show i < 12 by omega) t1 a3 (fun w3 f3 D3 => ?_)
        have KK := K i w3 k2 H2 hi rfl a2 a3 ((f.up (by omega) (by omega)).tr (f3.up (by omega) (by omega))) (C2.D f3 (d2 := tkD d i x) D3) rc
        simp only [q61_58, gF0, gF1, gF2, gF3, gF4, gF5, gF6, gF7, gF8, gF9, gF10, gF11, gF12, gF13, gF14, gF15, gF16, gF17, gF18, gF19, pF0, pF1, pF2, pF3, pF4, pF5, pF6, pF7, pF8, pF9, pF10, pF11, pF12, pF13, pF14, pF15, pF16, pF17, pF18, pF19, aI_mk, aL_mk, aA_mk, sI_mk, sL_mk, sA_mk, isO_mk, rl_some, rl_none, true_and, and_true, true_or, or_true, wr_1]
        exact KK
      · have a3' : ¬ nI (tkF (dt d) i) < 6 := fun q => a3 ((nI_lt' (b := 6) (by omega) (by omega)).mp q)
        rw [← t1] at a3'
        have KK := K1 i hi rfl a2 (Nat.le_antisymm t2 (Nat.not_lt.mp a3))
        simp only [q61_0, q61_1, q61_4, q61_5, q61_8, q61_11, q61_12, q61_15, q61_18, q61_20, q61_21, q61_22, q61_25, q61_28, q61_29, q61_30, q61_32, q61_35, q61_37, q61_38, q61_39, q61_42, q61_43, q61_46, gF0, gF1, gF2, gF3, gF4, gF5, gF6, gF7, gF8, gF9, gF10, gF11, gF12, gF13, gF14, gF15, gF16, gF17, gF18, gF19, pF0, pF1, pF2, pF3, pF4, pF5, pF6, pF7, pF8, pF9, pF10, pF11, pF12, pF13, pF14, pF15, pF16, pF17, pF18, pF19, aI_mk, aL_mk, aA_mk, sI_mk, sL_mk, sA_mk, isO_mk, rl_some, rl_none, true_and, and_true, true_or, or_true, wr_1, c3 C.2.1, b1, c84, bI_t a2, z1, not_false_eq_true, if_true, if_false, h0, oC, h1, h4, h6, hx, hcl, a3']
        exact KK
    · have KK := K0 (fun q => a2 q.2)
      simp only [q61_0, q61_1, q61_4, q61_5, q61_8, q61_11, q61_12, q61_15, q61_18, q61_20, gF0, gF1, gF2, gF3, gF4, gF5, gF6, gF7, gF8, gF9, gF10, gF11, gF12, gF13, gF14, gF15, gF16, gF17, gF18, gF19, pF0, pF1, pF2, pF3, pF4, pF5, pF6, pF7, pF8, pF9, pF10, pF11, pF12, pF13, pF14, pF15, pF16, pF17, pF18, pF19, aI_mk, aL_mk, aA_mk, sI_mk, sL_mk, sA_mk, isO_mk, rl_some, rl_none, true_and, and_true, true_or, or_true, wr_1, c3 C.2.1, bI_t a1, c84, bI_f a2, z1, not_true, if_false, h0, oC, h1]
      exact KK
  · have KK := K0 (fun q => a1 q.1)
    simp only [q61_0, q61_1, q61_4, q61_5, q61_8, q61_11, q61_12, q61_15, q61_18, q61_20, gF0, gF1, gF2, gF3, gF4, gF5, gF6, gF7, gF8, gF9, gF10, gF11, gF12, gF13, gF14, gF15, gF16, gF17, gF18, gF19, pF0, pF1, pF2, pF3, pF4, pF5, pF6, pF7, pF8, pF9, pF10, pF11, pF12, pF13, pF14, pF15, pF16, pF17, pF18, pF19, aI_mk, aL_mk, aA_mk, sI_mk, sL_mk, sA_mk, isO_mk, rl_some, rl_none, true_and, and_true, true_or, or_true, wr_1, c3 C.2.1, bI_f a1, if_true, h0, oC, h1]
    exact KK
theorem c62 (C : cW oo w d k H cf len) (v : vC d k H cf len) {r q : Int32} (K0 : ¬ ((¬ r < 0 ∧ r < nI (dn d)) ∧ ¬ q < 0 ∧ q < dt d r.toNatClampNeg) → Q (some (.int (-2000000001))) w) (K : ∀ i j t w2 mf2 k2 H2, i < dn d → r = nI i → q = nI j → j ≤ t → t < 6 → dt d i = nI (t + 1) → fr w w2 oo (oo + 51) → cW oo w2 (d.1, dl d, dr d, upd (dt d) i (nI t), mf2) k2 H2 cf len → (∀ x, mf2 x = if 6 * i + j ≤ x ∧ x < 6 * i + t then dm d (x + 1) else dm d x) → reC d k H k2 H2 → Q (some (.int (nI t))) w2) : Wp 62 b 0 [.ref oo, .int r, .int q] [] w Q := by
  have h0 := C.1
  have h1 := C.2.1.1
  have h6 := C.o6
  have hn : dn d ≤ 12 := v.1.1
  have z1 : ¬ (1 : Int32) = 0 := by decide
  by_cases a1 : (¬ r < 0 ∧ r < nI (dn d)) ∧ ¬ q < 0 ∧ q < dt d r.toNatClampNeg
  · obtain ⟨i, hi, er⟩ := row_of hn a1.1.1 a1.1.2
    have hcl : (nI i).toNatClampNeg = i := cl_nI (by omega)
    have hx : x_pl (nI i) 12 := x_pl_nI (by omega) (by omega)
    obtain ⟨t1, t2⟩ : dt d i = nI (tkF (dt d) i) ∧ tkF (dt d) i ≤ 6 := v.1.2 i hi
    have a2 := a1.2
    rw [er, hcl, t1] at a2
    obtain ⟨j, hj, eq⟩ := row_of (n := tkF (dt d) i) (by omega) a2.1 a2.2
    simp only [q62_0, q62_1, q62_4, q62_5, q62_6, q62_9, q62_12, q62_14, q62_15, q62_16, q62_19, q62_20, q62_23, gF0, gF1, gF2, gF3, gF4, gF5, gF6, gF7, gF8, gF9, gF10, gF11, gF12, gF13, gF14, gF15, gF16, gF17, gF18, gF19, pF0, pF1, pF2, pF3, pF4, pF5, pF6, pF7, pF8, pF9, pF10, pF11, pF12, pF13, pF14, pF15, pF16, pF17, pF18, pF19, aI_mk, aL_mk, aA_mk, sI_mk, sL_mk, sA_mk, isO_mk, rl_some, rl_none, true_and, and_true, true_or, or_true, wr_1, c4 C.2.1 hn, bI_t a1, z1, not_false_eq_true, if_true, h0, oC, h1, h6]
    refine c27w C v (fun w2 k2 H2 f C2 rc => ?_)
    have g0 := C2.1
    have g1 := C2.2.1.1
    simp only [q62_26, q62_27, q62_30, q62_31, q62_32, gF0, gF1, gF2, gF3, gF4, gF5, gF6, gF7, gF8, gF9, gF10, gF11, gF12, gF13, gF14, gF15, gF16, gF17, gF18, gF19, pF0, pF1, pF2, pF3, pF4, pF5, pF6, pF7, pF8, pF9, pF10, pF11, pF12, pF13, pF14, pF15, pF16, pF17, pF18, pF19, aI_mk, aL_mk, aA_mk, sI_mk, sL_mk, sA_mk, isO_mk, rl_some, rl_none, true_and, and_true, true_or, or_true, wr_1, g0, oC, g1]
    subst er
    subst eq
    refine c10 C2.2.1 (show i < 12 by omega) (t := tkF (dt d) i - 1) (by rw [Nat.sub_add_cancel (by omega)]; exact t1) (by omega) (show j ≤ tkF (dt d) i - 1 by omega) (fun w3 mf2 f3 D3 em => ?_)
    have C3 : cW oo w3 (d.1, dl d, dr d, upd (dt d) i (nI (tkF (dt d) i - 1)), mf2) k2 H2 cf len := C2.D f3 (d2 := (d.1, dl d, dr d, upd (dt d) i (nI (tkF (dt d) i - 1)), mf2)) D3
    have KK := K i j (tkF (dt d) i - 1) w3 mf2 k2 H2 hi rfl rfl (by omega) (by omega) (by rw [Nat.sub_add_cancel (by omega)]; exact t1) ((f.up (by omega) (by omega)).tr (f3.up (by omega) (by omega))) C3 em rc
    have k0 := C3.1
    have k1 := D3.1
    have k4 := D3.2.2.2.1
    simp only [q62_35, q62_36, q62_39, q62_42, q62_43, q62_44, gF0, gF1, gF2, gF3, gF4, gF5, gF6, gF7, gF8, gF9, gF10, gF11, gF12, gF13, gF14, gF15, gF16, gF17, gF18, gF19, pF0, pF1, pF2, pF3, pF4, pF5, pF6, pF7, pF8, pF9, pF10, pF11, pF12, pF13, pF14, pF15, pF16, pF17, pF18, pF19, aI_mk, aL_mk, aA_mk, sI_mk, sL_mk, sA_mk, isO_mk, rl_some, rl_none, true_and, and_true, true_or, or_true, wr_1, k0, oC, k1, k4, hx, hcl, pk_us]
    exact KK
  · have KK := K0 a1
    simp only [q62_0, q62_1, q62_4, q62_5, q62_6, q62_9, q62_12, q62_14, gF0, gF1, gF2, gF3, gF4, gF5, gF6, gF7, gF8, gF9, gF10, gF11, gF12, gF13, gF14, gF15, gF16, gF17, gF18, gF19, pF0, pF1, pF2, pF3, pF4, pF5, pF6, pF7, pF8, pF9, pF10, pF11, pF12, pF13, pF14, pF15, pF16, pF17, pF18, pF19, aI_mk, aL_mk, aA_mk, sI_mk, sL_mk, sA_mk, isO_mk, rl_some, rl_none, true_and, and_true, true_or, or_true, wr_1, c4 C.2.1 hn, bI_f a1, not_true, if_false, h0, oC, h1]
    exact KK
theorem c67 (C : cW oo w d k H cf len) (v : vC d k H cf len) (K0 : k = 0 → Q (some (.int (-2000000002))) w) (K : ∀ k2 w2 d2, k = k2 + 1 → fr w w2 oo (oo + 51) → cW oo w2 d2 k2 H cf len → eqD d2 (H k2) → Q (some (.int (nI k2))) w2) : Wp 67 b 0 [.ref oo] [] w Q := by
  have h0 := C.1
  have h6 := C.o6
  obtain ⟨-, vk, vH, -⟩ := v
  have e0 : nI k = 0 ↔ k = 0 := nI_eq' (b := 0) (by omega) (by omega)
  by_cases c : k = 0
  · have KK := K0 c
    have e1 := e0.mpr c
    simp only [q67_0, q67_1, q67_4, q67_7, q67_10, q67_12, gF0, gF1, gF2, gF3, gF4, gF5, gF6, gF7, gF8, gF9, gF10, gF11, gF12, gF13, gF14, gF15, gF16, gF17, gF18, gF19, pF0, pF1, pF2, pF3, pF4, pF5, pF6, pF7, pF8, pF9, pF10, pF11, pF12, pF13, pF14, pF15, pF16, pF17, pF18, pF19, aI_mk, aL_mk, aA_mk, sI_mk, sL_mk, sA_mk, isO_mk, rl_some, rl_none, true_and, and_true, true_or, or_true, wr_1, h0, oC, h6, e1, not_true, if_false]
    exact KK
  · obtain ⟨k2, rfl⟩ : ∃ k2, k = k2 + 1 := ⟨k - 1, by omega⟩
    simp only [q67_0, q67_1, q67_4, q67_7, q67_10, q67_12, q67_13, q67_14, q67_17, q67_18, q67_21, gF0, gF1, gF2, gF3, gF4, gF5, gF6, gF7, gF8, gF9, gF10, gF11, gF12, gF13, gF14, gF15, gF16, gF17, gF18, gF19, pF0, pF1, pF2, pF3, pF4, pF5, pF6, pF7, pF8, pF9, pF10, pF11, pF12, pF13, pF14, pF15, pF16, pF17, pF18, pF19, aI_mk, aL_mk, aA_mk, sI_mk, sL_mk, sA_mk, isO_mk, rl_some, rl_none, true_and, and_true, true_or, or_true, wr_1, h0, oC, h6, e0, c, not_false_eq_true, if_true]
    obtain ⟨h0, D, ⟨K0', a1, a2, a3⟩, ⟨l, r, a, nx, X⟩, ⟨e, p, rs, dd, R, T⟩, ⟨u, det, N, S, M, V, Z⟩⟩ := C
    refine c29 a1 vk a2 a3 D (vH k2 (by omega)) (Or.inl (by omega)) (fun w1 w2 d2 f1 f2 H2 P2 D2 E2 => ?_)
    have f : fr w w2 (oo + 1) (oo + 8) := (f1.up (by omega) (by omega)).tr (f2.up (by omega) (by omega))
    have C2 : cW oo w2 d2 k2 H cf len := ⟨(f.2.2 _ (by omega)).trans h0, D2, ⟨K0', H2, a2, P2⟩, ⟨l, r, a, nx, X.fr f (by omega)⟩, ⟨e, p, rs, dd, (f.2.2 _ (by omega)).trans R, T.fr f (by omega)⟩, ⟨u, det, N, S, M, V, Z.fr f (by omega)⟩⟩
    have KK := K k2 w2 d2 rfl (f.up (by omega) (by omega)) C2 E2
    have g0 := C2.1
    have g6 := C2.o6
    simp only [q67_24, q67_25, q67_28, q67_31, gF0, gF1, gF2, gF3, gF4, gF5, gF6, gF7, gF8, gF9, gF10, gF11, gF12, gF13, gF14, gF15, gF16, gF17, gF18, gF19, pF0, pF1, pF2, pF3, pF4, pF5, pF6, pF7, pF8, pF9, pF10, pF11, pF12, pF13, pF14, pF15, pF16, pF17, pF18, pF19, aI_mk, aL_mk, aA_mk, sI_mk, sL_mk, sA_mk, isO_mk, rl_some, rl_none, true_and, and_true, true_or, or_true, wr_1, g0, oC, g6]
    exact KK
end FB
