section MRG
variable {b : Nat} {m : xM} {n U len : Nat} {Q : Option Value → xW → Prop} {le ri re rs : Int32}
/-- a row that has failed already -/
theorem e68z {w : xW} {p : Nat} (D : isM w (m.s_T (nI p) le ri re rs)) (hl : m.ty = len) (h80 : len ≤ 80) (hp : p ≤ 80) (K : ∀ w2 p2 re2, fr w w2 51 60 → p2 ≤ 80 → isM w2 (m.s_T (nI p2) le ri re2 rs) → Q (some (.int 0)) w2) : Wp 147 b 68 [.ref 51, .int 0, x_no, x_no] [] w Q := by
  have h0 := D.T0.1
  have T : ∀ (w2 : xW) (q : Nat) (neg : Bool), fr w w2 51 60 → q ≤ 80 → isM w2 (m.s_T (nI q) le ri re rs) → Wp 147 b 75 [.ref 51, .int 0, .int (bI (neg = true)), x_no] [] w2 Q := by
    intro w2 q neg f2 hq D2
    have h2 := D2.T0.1
    have D3 := D2.T1 (nI q) le ri 0 rs
    simp only [q147_75, q147_76, q147_79, q147_80, q147_81, q147_82, q147_85, q147_86, q147_167, q147_168, gF0, gF1, gF2, gF3, gF4, gF5, gF6, gF7, gF8, gF9, gF10, gF11, gF12, gF13, gF14, gF15, gF16, gF17, gF18, gF19, pF0, pF1, pF2, pF3, pF4, pF5, pF6, pF7, pF8, pF9, pF10, pF11, pF12, pF13, pF14, pF15, pF16, pF17, pF18, pF19, aI_mk, aL_mk, aA_mk, sI_mk, sL_mk, sA_mk, isO_mk, rl_some, rl_none, true_and, and_true, true_or, or_true, wr_1, h2, if_true]
    exact e192 D3 (fun w4 re2 f4 D4 => K w4 q re2 ((f2.tr (fr.wr (by omega) (by omega))).tr f4) hq D4)
  simp only [q147_68, q147_69, q147_71, gF0, gF1, gF2, gF3, gF4, gF5, gF6, gF7, gF8, gF9, gF10, gF11, gF12, gF13, gF14, gF15, gF16, gF17, gF18, gF19, pF0, pF1, pF2, pF3, pF4, pF5, pF6, pF7, pF8, pF9, pF10, pF11, pF12, pF13, pF14, pF15, pF16, pF17, pF18, pF19, aI_mk, aL_mk, aA_mk, sI_mk, sL_mk, sA_mk, isO_mk, rl_some, rl_none, true_and, and_true, true_or, or_true, wr_1, h0]
  refine e145 D hl h80 hp (by decide) (fun w2 e2 f2 D2 => ?_) (fun w2 e2 h2 f2 D2 => ?_)
  · have := T w2 p false f2 hp D2
    rw [bI_f (by decide)] at this
    simp only [q147_74, gF0, gF1, gF2, gF3, gF4, gF5, gF6, gF7, gF8, gF9, gF10, gF11, gF12, gF13, gF14, gF15, gF16, gF17, gF18, gF19, pF0, pF1, pF2, pF3, pF4, pF5, pF6, pF7, pF8, pF9, pF10, pF11, pF12, pF13, pF14, pF15, pF16, pF17, pF18, pF19, aI_mk, aL_mk, aA_mk, sI_mk, sL_mk, sA_mk, isO_mk, rl_some, rl_none, true_and, and_true, true_or, or_true, wr_1]
    exact this
  · have := T w2 (p + 1) true f2 (by omega) D2
    rw [bI_t rfl] at this
    simp only [q147_74, gF0, gF1, gF2, gF3, gF4, gF5, gF6, gF7, gF8, gF9, gF10, gF11, gF12, gF13, gF14, gF15, gF16, gF17, gF18, gF19, pF0, pF1, pF2, pF3, pF4, pF5, pF6, pF7, pF8, pF9, pF10, pF11, pF12, pF13, pF14, pF15, pF16, pF17, pF18, pF19, aI_mk, aL_mk, aA_mk, sI_mk, sL_mk, sA_mk, isO_mk, rl_some, rl_none, true_and, and_true, true_or, or_true, wr_1]
    exact this
/-- a row's amount and its end -/
theorem e68 {w : xW} {p : Nat} (D : isM w (m.s_T (nI p) le ri re rs)) (hl : m.ty = len) (h80 : len ≤ 80) (hp : p ≤ 80) (K0 : ∀ w2 p2 re2, ¬ ((amF m.cf len p).2.2 = true ∧ chF m.cf len (amF m.cf len p).1 = 59) → fr w w2 51 60 → p2 ≤ 80 → isM w2 (m.s_T (nI p2) le ri re2 rs) → Q (some (.int 0)) w2) (K1 : ∀ w2, (amF m.cf len p).2.2 = true → chF m.cf len (amF m.cf len p).1 = 59 → fr w w2 51 60 → (amF m.cf len p).1 + 1 ≤ 80 → isM w2 (m.s_T (nI ((amF m.cf len p).1 + 1)) le ri (amF m.cf len p).2.1 rs) → Q (some (.int 1)) w2) : Wp 147 b 68 [.ref 51, .int 1, x_no, x_no] [] w Q := by
  have h0 := D.T0.1
  simp only [q147_68, q147_69, q147_71, gF0, gF1, gF2, gF3, gF4, gF5, gF6, gF7, gF8, gF9, gF10, gF11, gF12, gF13, gF14, gF15, gF16, gF17, gF18, gF19, pF0, pF1, pF2, pF3, pF4, pF5, pF6, pF7, pF8, pF9, pF10, pF11, pF12, pF13, pF14, pF15, pF16, pF17, pF18, pF19, aI_mk, aL_mk, aA_mk, sI_mk, sL_mk, sA_mk, isO_mk, rl_some, rl_none, true_and, and_true, true_or, or_true, wr_1, h0]
  refine e145 D hl h80 hp (by decide) (fun w2 e2 f2 D2 => ?_) (fun w2 e2 h2 f2 D2 => ?_)
  · have ea : amF m.cf len p = ((dgF m.cf len 6 p 0).1, (dgF m.cf len 6 p 0).2, decide (p < (dgF m.cf len 6 p 0).1)) := by
      unfold amF
      simp only [if_neg e2]
    rw [ea] at K0 K1
    have := e75 (b := b) (neg := false) (Q := Q) D2 hl h80 hp (fun w3 p2 re2 h f3 hp2 D3 => K0 w3 p2 re2 (fun q => h ⟨of_decide_eq_true q.1, q.2⟩) (f2.tr f3) hp2 D3) (fun w3 h1 h2 f3 hp2 D3 => K1 w3 (decide_eq_true h1) h2 (f2.tr f3) hp2 D3)
    rw [bI_f (by decide)] at this
    simp only [q147_74, gF0, gF1, gF2, gF3, gF4, gF5, gF6, gF7, gF8, gF9, gF10, gF11, gF12, gF13, gF14, gF15, gF16, gF17, gF18, gF19, pF0, pF1, pF2, pF3, pF4, pF5, pF6, pF7, pF8, pF9, pF10, pF11, pF12, pF13, pF14, pF15, pF16, pF17, pF18, pF19, aI_mk, aL_mk, aA_mk, sI_mk, sL_mk, sA_mk, isO_mk, rl_some, rl_none, true_and, and_true, true_or, or_true, wr_1]
    exact this
  · have ea : amF m.cf len p = ((dgF m.cf len 6 (p + 1) 0).1, -(dgF m.cf len 6 (p + 1) 0).2, decide (p + 1 < (dgF m.cf len 6 (p + 1) 0).1)) := by
      unfold amF
      simp only [if_pos e2]
    rw [ea] at K0 K1
    have := e75 (b := b) (neg := true) (Q := Q) D2 hl h80 (by omega) (fun w3 p2 re2 h f3 hp2 D3 => K0 w3 p2 re2 (fun q => h ⟨of_decide_eq_true q.1, q.2⟩) (f2.tr f3) hp2 D3) (fun w3 h1 h2 f3 hp2 D3 => K1 w3 (decide_eq_true h1) h2 (f2.tr f3) hp2 D3)
    rw [bI_t rfl] at this
    simp only [q147_74, gF0, gF1, gF2, gF3, gF4, gF5, gF6, gF7, gF8, gF9, gF10, gF11, gF12, gF13, gF14, gF15, gF16, gF17, gF18, gF19, pF0, pF1, pF2, pF3, pF4, pF5, pF6, pF7, pF8, pF9, pF10, pF11, pF12, pF13, pF14, pF15, pF16, pF17, pF18, pF19, aI_mk, aL_mk, aA_mk, sI_mk, sL_mk, sA_mk, isO_mk, rl_some, rl_none, true_and, and_true, true_or, or_true, wr_1]
    exact this
theorem am_le {cf : Nat → Int32} {len p : Nat} : p ≤ (amF cf len p).1 := by
  unfold amF
  by_cases c : chF cf len p = 45
  · simp only [if_pos c]
    have := (dgF_le cf len 6 (p + 1) 0).1
    omega
  · simp only [if_neg c]
    exact (dgF_le cf len 6 p 0).1
/-- a row of the text -/
theorem c147 {w : xW} {p : Nat} (D : isM w (m.s_T (nI p) le ri re rs)) (hl : m.ty = len) (h80 : len ≤ 80) (hp : p ≤ 80) (K0 : ∀ w2 p2 le2 ri2 re2, prF m.cf len p = none → fr w w2 51 60 → p2 ≤ 80 → isM w2 (m.s_T (nI p2) le2 ri2 re2 rs) → Q (some (.int 0)) w2) (K1 : ∀ w2 z, prF m.cf len p = some z → fr w w2 51 60 → z.2 ≤ 80 → p < z.2 → isM w2 (m.s_T (nI z.2) z.1.1 z.1.2.1 z.1.2.2 rs) → Q (some (.int 1)) w2) : Wp 147 b 0 [.ref 51, x_no, x_no, x_no] [] w Q := by
  have z1 : ¬ (1 : Int32) = 0 := by decide
  have l0 : (0 : Int32) ≤ 0 := by decide
  have h0 := D.T0.1
  simp only [q147_0, q147_1, q147_2, gF0, gF1, gF2, gF3, gF4, gF5, gF6, gF7, gF8, gF9, gF10, gF11, gF12, gF13, gF14, gF15, gF16, gF17, gF18, gF19, pF0, pF1, pF2, pF3, pF4, pF5, pF6, pF7, pF8, pF9, pF10, pF11, pF12, pF13, pF14, pF15, pF16, pF17, pF18, pF19, aI_mk, aL_mk, aA_mk, sI_mk, sL_mk, sA_mk, isO_mk, rl_some, rl_none, true_and, and_true, true_or, or_true, wr_1, h0]
  refine e146 D hl h80 hp (fun w2 f2 D2 g1 g2 => ?_)
  have hr0 := x_rm0 (cf := m.cf) (len := len) (p := p)
  have eP : prF m.cf len p = if (rmF m.cf len 5 0 p 0).1 = 0 then none else
    if ¬ chF m.cf len (rmF m.cf len 5 0 p 0).2 = 58 then none else
    if (rmF m.cf len 5 0 ((rmF m.cf len 5 0 p 0).2 + 1) 0).1 = 0 then none else
    if ¬ chF m.cf len (rmF m.cf len 5 0 ((rmF m.cf len 5 0 p 0).2 + 1) 0).2 = 61 then none else
    if ¬ (amF m.cf len ((rmF m.cf len 5 0 ((rmF m.cf len 5 0 p 0).2 + 1) 0).2 + 1)).2.2 = true then none else
    if ¬ chF m.cf len (amF m.cf len ((rmF m.cf len 5 0 ((rmF m.cf len 5 0 p 0).2 + 1) 0).2 + 1)).1 = 59 then none else
    some (((rmF m.cf len 5 0 p 0).1, (rmF m.cf len 5 0 ((rmF m.cf len 5 0 p 0).2 + 1) 0).1, (amF m.cf len ((rmF m.cf len 5 0 ((rmF m.cf len 5 0 p 0).2 + 1) 0).2 + 1)).2.1), (amF m.cf len ((rmF m.cf len 5 0 ((rmF m.cf len 5 0 p 0).2 + 1) 0).2 + 1)).1 + 1) := rfl
  generalize prF m.cf len p = P at eP K0 K1
  generalize rmF m.cf len 5 0 p 0 = A at *
  have h2 := D2.T0.1
  have D3 := D2.T1 (nI A.2) A.1 ri re rs
  -- the place where a row has failed before its right pan
  have F0 : P = none → ∀ (w5 : xW) (q : Nat), fr w w5 51 60 → q ≤ 80 → isM w5 (m.s_T (nI q) A.1 ri re rs) → Wp 147 b 28 [.ref 51, x_no, x_no, x_no] [] w5 Q := by
    intro hP w5 q f5 hq D5
    have h5 := D5.T0.1
    have D6 := D5.T1 (nI q) A.1 0 re rs
    simp only [q147_28, q147_29, q147_30, q147_31, q147_32, q147_35, q147_36, q147_39, q147_42, q147_43, q147_46, q147_47, q147_50, q147_66, q147_67, gF0, gF1, gF2, gF3, gF4, gF5, gF6, gF7, gF8, gF9, gF10, gF11, gF12, gF13, gF14, gF15, gF16, gF17, gF18, gF19, pF0, pF1, pF2, pF3, pF4, pF5, pF6, pF7, pF8, pF9, pF10, pF11, pF12, pF13, pF14, pF15, pF16, pF17, pF18, pF19, aI_mk, aL_mk, aA_mk, sI_mk, sL_mk, sA_mk, isO_mk, rl_some, rl_none, true_and, and_true, true_or, or_true, wr_1, h5, if_true, if_pos l0, rd_s]
    exact e68z D6 hl h80 hq (fun w7 p7 re7 f7 hp7 D7 => K0 w7 p7 A.1 0 re7 hP ((f5.tr (fr.wr (by omega) (by omega))).tr f7) hp7 D7)
  by_cases a0 : A.1 = 0
  · rw [if_pos a0] at eP
    have := F0 eP _ A.2 (f2.tr (fr.wr (by omega) (by omega))) g1 D3
    simp only [q147_5, q147_8, q147_9, q147_12, gF0, gF1, gF2, gF3, gF4, gF5, gF6, gF7, gF8, gF9, gF10, gF11, gF12, gF13, gF14, gF15, gF16, gF17, gF18, gF19, pF0, pF1, pF2, pF3, pF4, pF5, pF6, pF7, pF8, pF9, pF10, pF11, pF12, pF13, pF14, pF15, pF16, pF17, pF18, pF19, aI_mk, aL_mk, aA_mk, sI_mk, sL_mk, sA_mk, isO_mk, rl_some, rl_none, true_and, and_true, true_or, or_true, wr_1, h2, rd_s, if_pos (hr0.mpr a0)]
    exact this
  · rw [if_neg a0] at eP
    have a0' : ¬ A.1 ≤ 0 := fun q => a0 (hr0.mp q)
    simp only [q147_5, q147_8, q147_9, q147_12, q147_15, q147_16, q147_18, gF0, gF1, gF2, gF3, gF4, gF5, gF6, gF7, gF8, gF9, gF10, gF11, gF12, gF13, gF14, gF15, gF16, gF17, gF18, gF19, pF0, pF1, pF2, pF3, pF4, pF5, pF6, pF7, pF8, pF9, pF10, pF11, pF12, pF13, pF14, pF15, pF16, pF17, pF18, pF19, aI_mk, aL_mk, aA_mk, sI_mk, sL_mk, sA_mk, isO_mk, rl_some, rl_none, true_and, and_true, true_or, or_true, wr_1, h2, rd_s, if_neg a0']
    refine e145 D3 hl h80 g1 (by decide) (fun w4 e4 f4 D4 => ?_) (fun w4 e4 hlt f4 D4 => ?_)
    · rw [if_pos e4] at eP
      have := F0 eP w4 A.2 (f2.tr ((fr.wr (by omega) (by omega)).tr f4)) g1 D4
      simp only [q147_21, gF0, gF1, gF2, gF3, gF4, gF5, gF6, gF7, gF8, gF9, gF10, gF11, gF12, gF13, gF14, gF15, gF16, gF17, gF18, gF19, pF0, pF1, pF2, pF3, pF4, pF5, pF6, pF7, pF8, pF9, pF10, pF11, pF12, pF13, pF14, pF15, pF16, pF17, pF18, pF19, aI_mk, aL_mk, aA_mk, sI_mk, sL_mk, sA_mk, isO_mk, rl_some, rl_none, true_and, and_true, true_or, or_true, wr_1, if_true]
      exact this
    · rw [if_neg (fun q => q e4)] at eP
      have h4 := D4.T0.1
      have f24 := f2.tr ((fr.wr (by omega) (by omega)).tr f4)
      have hA : A.2 + 1 ≤ 80 := by omega
      simp only [q147_21, q147_24, q147_25, q147_28, q147_29, q147_30, q147_31, q147_32, q147_35, q147_36, gF0, gF1, gF2, gF3, gF4, gF5, gF6, gF7, gF8, gF9, gF10, gF11, gF12, gF13, gF14, gF15, gF16, gF17, gF18, gF19, pF0, pF1, pF2, pF3, pF4, pF5, pF6, pF7, pF8, pF9, pF10, pF11, pF12, pF13, pF14, pF15, pF16, pF17, pF18, pF19, aI_mk, aL_mk, aA_mk, sI_mk, sL_mk, sA_mk, isO_mk, rl_some, rl_none, true_and, and_true, true_or, or_true, wr_1, z1, if_false, h4]
      refine e146 D4 hl h80 hA (fun w5 f5 D5 g3 g4 => ?_)
      have hr1 := x_rm0 (cf := m.cf) (len := len) (p := A.2 + 1)
      generalize rmF m.cf len 5 0 (A.2 + 1) 0 = C at *
      have h5 := D5.T0.1
      have D6 := D5.T1 (nI C.2) A.1 C.1 re rs
      have f26 := (f24.tr f5).tr (fr.wr (a := 51) (c := .inr (6, [.ref 52, .ref 53, .int (nI m.st), .ref 54, .ref 55, .int (nI m.ty), .int (nI C.2), .int A.1, .int C.1, .int re, .int rs, .ref 56, .int m.wr, .int m.wd, .ref 57, .ref 58, .long m.be, .ref 59, .long m.up, .long m.dn])) (by omega) (by omega))
      by_cases c0 : C.1 = 0
      · rw [if_pos c0] at eP
        simp only [q147_39, q147_42, q147_43, q147_46, q147_47, q147_50, q147_66, q147_67, gF0, gF1, gF2, gF3, gF4, gF5, gF6, gF7, gF8, gF9, gF10, gF11, gF12, gF13, gF14, gF15, gF16, gF17, gF18, gF19, pF0, pF1, pF2, pF3, pF4, pF5, pF6, pF7, pF8, pF9, pF10, pF11, pF12, pF13, pF14, pF15, pF16, pF17, pF18, pF19, aI_mk, aL_mk, aA_mk, sI_mk, sL_mk, sA_mk, isO_mk, rl_some, rl_none, true_and, and_true, true_or, or_true, wr_1, h5, rd_s, if_pos (hr1.mpr c0)]
        exact e68z D6 hl h80 g3 (fun w7 p7 re7 f7 hp7 D7 => K0 w7 p7 A.1 C.1 re7 eP (f26.tr f7) hp7 D7)
      · rw [if_neg c0] at eP
        have c0' : ¬ C.1 ≤ 0 := fun q => c0 (hr1.mp q)
        simp only [q147_39, q147_42, q147_43, q147_46, q147_47, q147_50, q147_53, q147_54, q147_56, gF0, gF1, gF2, gF3, gF4, gF5, gF6, gF7, gF8, gF9, gF10, gF11, gF12, gF13, gF14, gF15, gF16, gF17, gF18, gF19, pF0, pF1, pF2, pF3, pF4, pF5, pF6, pF7, pF8, pF9, pF10, pF11, pF12, pF13, pF14, pF15, pF16, pF17, pF18, pF19, aI_mk, aL_mk, aA_mk, sI_mk, sL_mk, sA_mk, isO_mk, rl_some, rl_none, true_and, and_true, true_or, or_true, wr_1, h5, rd_s, if_neg c0']
        refine e145 D6 hl h80 g3 (by decide) (fun w7 e7 f7 D7 => ?_) (fun w7 e7 hlt7 f7 D7 => ?_)
        · rw [if_pos e7] at eP
          simp only [q147_59, q147_66, q147_67, gF0, gF1, gF2, gF3, gF4, gF5, gF6, gF7, gF8, gF9, gF10, gF11, gF12, gF13, gF14, gF15, gF16, gF17, gF18, gF19, pF0, pF1, pF2, pF3, pF4, pF5, pF6, pF7, pF8, pF9, pF10, pF11, pF12, pF13, pF14, pF15, pF16, pF17, pF18, pF19, aI_mk, aL_mk, aA_mk, sI_mk, sL_mk, sA_mk, isO_mk, rl_some, rl_none, true_and, and_true, true_or, or_true, wr_1, if_true]
          exact e68z D7 hl h80 g3 (fun w8 p8 re8 f8 hp8 D8 => K0 w8 p8 A.1 C.1 re8 eP ((f26.tr f7).tr f8) hp8 D8)
        · rw [if_neg (fun q => q e7)] at eP
          have hC : C.2 + 1 ≤ 80 := by omega
          simp only [q147_59, q147_62, q147_63, q147_67, gF0, gF1, gF2, gF3, gF4, gF5, gF6, gF7, gF8, gF9, gF10, gF11, gF12, gF13, gF14, gF15, gF16, gF17, gF18, gF19, pF0, pF1, pF2, pF3, pF4, pF5, pF6, pF7, pF8, pF9, pF10, pF11, pF12, pF13, pF14, pF15, pF16, pF17, pF18, pF19, aI_mk, aL_mk, aA_mk, sI_mk, sL_mk, sA_mk, isO_mk, rl_some, rl_none, true_and, and_true, true_or, or_true, wr_1, z1, if_false]
          have ham := am_le (cf := m.cf) (len := len) (p := C.2 + 1)
          refine e68 D7 hl h80 hC (fun w8 p8 re8 e8 f8 hp8 D8 => ?_) (fun w8 e8 e9 f8 hp8 D8 => ?_)
          · have hN : P = none := by
              by_cases d1 : (amF m.cf len (C.2 + 1)).2.2 = true
              · rw [if_neg (fun q => q d1), if_pos (fun q => e8 ⟨d1, q⟩)] at eP
                exact eP
              · rw [if_pos d1] at eP
                exact eP
            exact K0 w8 p8 A.1 C.1 re8 hN ((f26.tr f7).tr f8) hp8 D8
          · rw [if_neg (fun q => q e8), if_neg (fun q => q e9)] at eP
            exact K1 w8 _ eP ((f26.tr f7).tr f8) hp8 (by show p < (amF m.cf len (C.2 + 1)).1 + 1; omega) D8
end MRG
