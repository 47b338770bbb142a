/-! A text's row, and the trial -/
/-- a row that begins at p: its sets and its reading, and the place behind it -/
def prF (cf : Nat → Int32) (len p : Nat) : Option ((Int32 × Int32 × Int32) × Nat) :=
  if (rmF cf len 5 0 p 0).1 = 0 then none else
  if ¬ chF cf len (rmF cf len 5 0 p 0).2 = 58 then none else
  if (rmF cf len 5 0 ((rmF cf len 5 0 p 0).2 + 1) 0).1 = 0 then none else
  if ¬ chF cf len (rmF cf len 5 0 ((rmF cf len 5 0 p 0).2 + 1) 0).2 = 61 then none else
  if ¬ (amF cf len ((rmF cf len 5 0 ((rmF cf len 5 0 p 0).2 + 1) 0).2 + 1)).2.2 = true then none else
  if ¬ chF cf len (amF cf len ((rmF cf len 5 0 ((rmF cf len 5 0 p 0).2 + 1) 0).2 + 1)).1 = 59 then none else
  some (((rmF cf len 5 0 p 0).1, (rmF cf len 5 0 ((rmF cf len 5 0 p 0).2 + 1) 0).1, (amF cf len ((rmF cf len 5 0 ((rmF cf len 5 0 p 0).2 + 1) 0).2 + 1)).2.1), (amF cf len ((rmF cf len 5 0 ((rmF cf len 5 0 p 0).2 + 1) 0).2 + 1)).1 + 1)
section TR
variable {w : xW} {b t len p : Nat} {cf : Nat → Int32} {l r a nx : Int32} {Q : Option Value → xW → Prop}
theorem c48 (D : isX w t cf len l r a nx) (v : vX cf len) (hp : p ≤ 80) (K0 : ∀ w2 l2 r2 a2 nx2, prF cf len p = none → fr w w2 t (t + 1) → isX w2 t cf len l2 r2 a2 nx2 → Q (some (.int 0)) w2) (K1 : ∀ w2 z, prF cf len p = some z → fr w w2 t (t + 1) → isX w2 t cf len z.1.1 z.1.2.1 z.1.2.2 (nI z.2) → z.2 ≤ 80 → p < z.2 → Q (some (.int 1)) w2) : Wp 48 b 0 [.ref t, .int (nI p)] [] w Q := by
  have z1 : ¬ (1 : Int32) = 0 := by decide
  have c58 : ¬ (58 : Int32) = 0 := by decide
  have c61 : ¬ (61 : Int32) = 0 := by decide
  have c59 : ¬ (59 : Int32) = 0 := by decide
  have hv := v.1
  obtain ⟨h0, h1⟩ := D
  have nt : t + 1 ≠ t := by omega
  simp only [q48_0, q48_1, q48_2, q48_5, q48_6, q48_7, gF0, gF1, gF2, gF3, gF4, gF5, gF6, gF7, gF8, gF9, gF10, gF11, gF12, gF13, gF14, gF15, gF16, gF17, gF18, gF19, pF0, pF1, pF2, pF3, pF4, pF5, pF6, pF7, pF8, pF9, pF10, pF11, pF12, pF13, pF14, pF15, pF16, pF17, pF18, pF19, aI_mk, aL_mk, aA_mk, sI_mk, sL_mk, sA_mk, isO_mk, rl_some, rl_none, true_and, and_true, true_or, or_true, wr_1, h0, rd_s]
  have f0 : fr w (wr w t (.inr (3, [.ref (t + 1), .int (nI len), .int l, .int r, .int a, .int (nI p)]))) t (t + 1) := fr.wr (by omega) (by omega)
  refine c49 (cf := cf) (len := len) (l := l) (r := r) (a := a) (p := p) ⟨rd_s, (rd_n nt).trans h1⟩ v hp (fun w2 f2 D2 g1 g2 => ?_)
  have f02 := f0.tr f2
  obtain ⟨e0, e1⟩ := D2
  generalize hA : rmF cf len 5 0 p 0 = A at e0 g1 g2 K0 K1 ⊢
  have hpr : prF cf len p = if A.1 = 0 then none else
      if ¬ chF cf len A.2 = 58 then none else
      if (rmF cf len 5 0 (A.2 + 1) 0).1 = 0 then none else
      if ¬ chF cf len (rmF cf len 5 0 (A.2 + 1) 0).2 = 61 then none else
      if ¬ (amF cf len ((rmF cf len 5 0 (A.2 + 1) 0).2 + 1)).2.2 = true then none else
      if ¬ chF cf len (amF cf len ((rmF cf len 5 0 (A.2 + 1) 0).2 + 1)).1 = 59 then none else
      some ((A.1, (rmF cf len 5 0 (A.2 + 1) 0).1, (amF cf len ((rmF cf len 5 0 (A.2 + 1) 0).2 + 1)).2.1), (amF cf len ((rmF cf len 5 0 (A.2 + 1) 0).2 + 1)).1 + 1) := by
    unfold prF
    rw [hA]
  have f3 : fr w (wr w2 t (.inr (3, [.ref (t + 1), .int (nI len), .int A.1, .int r, .int a, .int (nI A.2)]))) t (t + 1) := f02.tr (fr.wr (by omega) (by omega))
  have D3 : isX (wr w2 t (.inr (3, [.ref (t + 1), .int (nI len), .int A.1, .int r, .int a, .int (nI A.2)]))) t cf len A.1 r a (nI A.2) := ⟨rd_s, (rd_n nt).trans e1⟩
  simp only [q48_10, q48_13, q48_14, q48_17, gF0, gF1, gF2, gF3, gF4, gF5, gF6, gF7, gF8, gF9, gF10, gF11, gF12, gF13, gF14, gF15, gF16, gF17, gF18, gF19, pF0, pF1, pF2, pF3, pF4, pF5, pF6, pF7, pF8, pF9, pF10, pF11, pF12, pF13, pF14, pF15, pF16, pF17, pF18, pF19, aI_mk, aL_mk, aA_mk, sI_mk, sL_mk, sA_mk, isO_mk, rl_some, rl_none, true_and, and_true, true_or, or_true, wr_1, e0, rd_s]
  generalize wr w2 t (.inr (3, [.ref (t + 1), .int (nI len), .int A.1, .int r, .int a, .int (nI A.2)])) = w3 at f3 D3 ⊢
  clear e0 e1 f2 f02 f0 h0 h1
  by_cases ca : A.1 = 0
  · rw [if_pos ca]
    simp only [q48_29, q48_30, gF0, gF1, gF2, gF3, gF4, gF5, gF6, gF7, gF8, gF9, gF10, gF11, gF12, gF13, gF14, gF15, gF16, gF17, gF18, gF19, pF0, pF1, pF2, pF3, pF4, pF5, pF6, pF7, pF8, pF9, pF10, pF11, pF12, pF13, pF14, pF15, pF16, pF17, pF18, pF19, aI_mk, aL_mk, aA_mk, sI_mk, sL_mk, sA_mk, isO_mk, rl_some, rl_none, true_and, and_true, true_or, or_true, wr_1]
    exact K0 w3 _ _ _ _ (by rw [hpr, if_pos ca]) f3 D3
  rw [if_neg ca]
  rw [if_neg ca] at hpr
  have D30 := D3
  obtain ⟨e0, e1⟩ := D3
  simp only [q48_20, q48_21, q48_23, gF0, gF1, gF2, gF3, gF4, gF5, gF6, gF7, gF8, gF9, gF10, gF11, gF12, gF13, gF14, gF15, gF16, gF17, gF18, gF19, pF0, pF1, pF2, pF3, pF4, pF5, pF6, pF7, pF8, pF9, pF10, pF11, pF12, pF13, pF14, pF15, pF16, pF17, pF18, pF19, aI_mk, aL_mk, aA_mk, sI_mk, sL_mk, sA_mk, isO_mk, rl_some, rl_none, true_and, and_true, true_or, or_true, wr_1, e0]
  refine c51 D30 v g1 c58 (fun q => ?_) (fun w4 q hlt f4 D4 => ?_)
  · simp only [q48_26, q48_29, q48_30, gF0, gF1, gF2, gF3, gF4, gF5, gF6, gF7, gF8, gF9, gF10, gF11, gF12, gF13, gF14, gF15, gF16, gF17, gF18, gF19, pF0, pF1, pF2, pF3, pF4, pF5, pF6, pF7, pF8, pF9, pF10, pF11, pF12, pF13, pF14, pF15, pF16, pF17, pF18, pF19, aI_mk, aL_mk, aA_mk, sI_mk, sL_mk, sA_mk, isO_mk, rl_some, rl_none, true_and, and_true, true_or, or_true, wr_1, not_true, if_false]
    exact K0 w3 _ _ _ _ (by rw [hpr, if_pos q]) f3 D30
  rw [if_neg (fun z => z q)] at hpr
  have f34 := f3.tr f4
  obtain ⟨e0, e1⟩ := D4
  simp only [q48_26, q48_29, q48_30, q48_31, q48_32, q48_33, gF0, gF1, gF2, gF3, gF4, gF5, gF6, gF7, gF8, gF9, gF10, gF11, gF12, gF13, gF14, gF15, gF16, gF17, gF18, gF19, pF0, pF1, pF2, pF3, pF4, pF5, pF6, pF7, pF8, pF9, pF10, pF11, pF12, pF13, pF14, pF15, pF16, pF17, pF18, pF19, aI_mk, aL_mk, aA_mk, sI_mk, sL_mk, sA_mk, isO_mk, rl_some, rl_none, true_and, and_true, true_or, or_true, wr_1, z1, not_false_eq_true, if_true, e0]
  refine c49 (cf := cf) (len := len) (l := A.1) (r := r) (a := a) (p := A.2 + 1) ⟨e0, e1⟩ v (by omega) (fun w5 f5 D5 g3 g4 => ?_)
  have f35 := f34.tr f5
  obtain ⟨e0, e1⟩ := D5
  generalize rmF cf len 5 0 (A.2 + 1) 0 = B at e0 g3 g4 hpr ⊢
  have f6 : fr w (wr w5 t (.inr (3, [.ref (t + 1), .int (nI len), .int A.1, .int B.1, .int a, .int (nI B.2)]))) t (t + 1) := f35.tr (fr.wr (by omega) (by omega))
  have D6 : isX (wr w5 t (.inr (3, [.ref (t + 1), .int (nI len), .int A.1, .int B.1, .int a, .int (nI B.2)]))) t cf len A.1 B.1 a (nI B.2) := ⟨rd_s, (rd_n nt).trans e1⟩
  simp only [q48_36, q48_39, q48_40, q48_43, gF0, gF1, gF2, gF3, gF4, gF5, gF6, gF7, gF8, gF9, gF10, gF11, gF12, gF13, gF14, gF15, gF16, gF17, gF18, gF19, pF0, pF1, pF2, pF3, pF4, pF5, pF6, pF7, pF8, pF9, pF10, pF11, pF12, pF13, pF14, pF15, pF16, pF17, pF18, pF19, aI_mk, aL_mk, aA_mk, sI_mk, sL_mk, sA_mk, isO_mk, rl_some, rl_none, true_and, and_true, true_or, or_true, wr_1, e0, rd_s]
  generalize wr w5 t (.inr (3, [.ref (t + 1), .int (nI len), .int A.1, .int B.1, .int a, .int (nI B.2)])) = w6 at f6 D6 ⊢
  clear e0 e1 f5 f35 f34 f4 f3 D30
  by_cases cb : B.1 = 0
  · rw [if_pos cb]
    simp only [q48_55, q48_56, gF0, gF1, gF2, gF3, gF4, gF5, gF6, gF7, gF8, gF9, gF10, gF11, gF12, gF13, gF14, gF15, gF16, gF17, gF18, gF19, pF0, pF1, pF2, pF3, pF4, pF5, pF6, pF7, pF8, pF9, pF10, pF11, pF12, pF13, pF14, pF15, pF16, pF17, pF18, pF19, aI_mk, aL_mk, aA_mk, sI_mk, sL_mk, sA_mk, isO_mk, rl_some, rl_none, true_and, and_true, true_or, or_true, wr_1]
    exact K0 w6 _ _ _ _ (by rw [hpr, if_pos cb]) f6 D6
  rw [if_neg cb]
  rw [if_neg cb] at hpr
  have D60 := D6
  obtain ⟨e0, e1⟩ := D6
  simp only [q48_46, q48_47, q48_49, gF0, gF1, gF2, gF3, gF4, gF5, gF6, gF7, gF8, gF9, gF10, gF11, gF12, gF13, gF14, gF15, gF16, gF17, gF18, gF19, pF0, pF1, pF2, pF3, pF4, pF5, pF6, pF7, pF8, pF9, pF10, pF11, pF12, pF13, pF14, pF15, pF16, pF17, pF18, pF19, aI_mk, aL_mk, aA_mk, sI_mk, sL_mk, sA_mk, isO_mk, rl_some, rl_none, true_and, and_true, true_or, or_true, wr_1, e0]
  refine c51 D60 v g3 c61 (fun q => ?_) (fun w7 q hlt f7 D7 => ?_)
  · simp only [q48_52, q48_55, q48_56, gF0, gF1, gF2, gF3, gF4, gF5, gF6, gF7, gF8, gF9, gF10, gF11, gF12, gF13, gF14, gF15, gF16, gF17, gF18, gF19, pF0, pF1, pF2, pF3, pF4, pF5, pF6, pF7, pF8, pF9, pF10, pF11, pF12, pF13, pF14, pF15, pF16, pF17, pF18, pF19, aI_mk, aL_mk, aA_mk, sI_mk, sL_mk, sA_mk, isO_mk, rl_some, rl_none, true_and, and_true, true_or, or_true, wr_1, not_true, if_false]
    exact K0 w6 _ _ _ _ (by rw [hpr, if_pos q]) f6 D60
  rw [if_neg (fun z => z q)] at hpr
  have f67 := f6.tr f7
  obtain ⟨e0, e1⟩ := D7
  simp only [q48_52, q48_55, q48_56, q48_57, q48_58, gF0, gF1, gF2, gF3, gF4, gF5, gF6, gF7, gF8, gF9, gF10, gF11, gF12, gF13, gF14, gF15, gF16, gF17, gF18, gF19, pF0, pF1, pF2, pF3, pF4, pF5, pF6, pF7, pF8, pF9, pF10, pF11, pF12, pF13, pF14, pF15, pF16, pF17, pF18, pF19, aI_mk, aL_mk, aA_mk, sI_mk, sL_mk, sA_mk, isO_mk, rl_some, rl_none, true_and, and_true, true_or, or_true, wr_1, z1, not_false_eq_true, if_true, e0]
  refine c50 (p := B.2 + 1) ⟨e0, e1⟩ v (by omega) (fun w8 f8 D8 g5 g6 => ?_)
  have f68 := f67.tr f8
  generalize amF cf len (B.2 + 1) = C at D8 g5 g6 hpr ⊢
  simp only [q48_61, gF0, gF1, gF2, gF3, gF4, gF5, gF6, gF7, gF8, gF9, gF10, gF11, gF12, gF13, gF14, gF15, gF16, gF17, gF18, gF19, pF0, pF1, pF2, pF3, pF4, pF5, pF6, pF7, pF8, pF9, pF10, pF11, pF12, pF13, pF14, pF15, pF16, pF17, pF18, pF19, aI_mk, aL_mk, aA_mk, sI_mk, sL_mk, sA_mk, isO_mk, rl_some, rl_none, true_and, and_true, true_or, or_true, wr_1, bI_0]
  by_cases cc : C.2.2 = true
  · rw [if_neg (fun z => z cc)]
    rw [if_neg (fun z => z cc)] at hpr
    have D80 := D8
    obtain ⟨e0, e1⟩ := D8
    simp only [q48_64, q48_65, q48_67, gF0, gF1, gF2, gF3, gF4, gF5, gF6, gF7, gF8, gF9, gF10, gF11, gF12, gF13, gF14, gF15, gF16, gF17, gF18, gF19, pF0, pF1, pF2, pF3, pF4, pF5, pF6, pF7, pF8, pF9, pF10, pF11, pF12, pF13, pF14, pF15, pF16, pF17, pF18, pF19, aI_mk, aL_mk, aA_mk, sI_mk, sL_mk, sA_mk, isO_mk, rl_some, rl_none, true_and, and_true, true_or, or_true, wr_1, e0]
    refine c51 D80 v g5 c59 (fun q => ?_) (fun w9 q hlt f9 D9 => ?_)
    · simp only [q48_70, q48_73, q48_74, q48_77, q48_78, gF0, gF1, gF2, gF3, gF4, gF5, gF6, gF7, gF8, gF9, gF10, gF11, gF12, gF13, gF14, gF15, gF16, gF17, gF18, gF19, pF0, pF1, pF2, pF3, pF4, pF5, pF6, pF7, pF8, pF9, pF10, pF11, pF12, pF13, pF14, pF15, pF16, pF17, pF18, pF19, aI_mk, aL_mk, aA_mk, sI_mk, sL_mk, sA_mk, isO_mk, rl_some, rl_none, true_and, and_true, true_or, or_true, wr_1, if_true]
      exact K0 w8 _ _ _ _ (by rw [hpr, if_pos q]) f68 D80
    · rw [if_neg (fun z => z q)] at hpr
      simp only [q48_70, q48_73, q48_74, q48_77, q48_78, gF0, gF1, gF2, gF3, gF4, gF5, gF6, gF7, gF8, gF9, gF10, gF11, gF12, gF13, gF14, gF15, gF16, gF17, gF18, gF19, pF0, pF1, pF2, pF3, pF4, pF5, pF6, pF7, pF8, pF9, pF10, pF11, pF12, pF13, pF14, pF15, pF16, pF17, pF18, pF19, aI_mk, aL_mk, aA_mk, sI_mk, sL_mk, sA_mk, isO_mk, rl_some, rl_none, true_and, and_true, true_or, or_true, wr_1, z1, if_false]
      exact K1 w9 _ hpr (f68.tr f9) D9 (by show C.1 + 1 ≤ 80; omega) (by show p < C.1 + 1; omega)
  · rw [if_pos cc]
    rw [if_pos cc] at hpr
    simp only [q48_77, q48_78, gF0, gF1, gF2, gF3, gF4, gF5, gF6, gF7, gF8, gF9, gF10, gF11, gF12, gF13, gF14, gF15, gF16, gF17, gF18, gF19, pF0, pF1, pF2, pF3, pF4, pF5, pF6, pF7, pF8, pF9, pF10, pF11, pF12, pF13, pF14, pF15, pF16, pF17, pF18, pF19, aI_mk, aL_mk, aA_mk, sI_mk, sL_mk, sA_mk, isO_mk, rl_some, rl_none, true_and, and_true, true_or, or_true, wr_1]
    exact K0 w8 _ _ _ _ hpr f68 D8
theorem c84 {x : Int32} : Wp 84 b 0 [.int x] [] w Q ↔ Q (some (.int (bI (-100000 ≤ x ∧ x ≤ 100000)))) w := by
  simp only [q84_0, q84_1, q84_3, q84_6, q84_7, q84_9, q84_12, q84_13, q84_16, q84_17, gF0, gF1, gF2, gF3, gF4, gF5, gF6, gF7, gF8, gF9, gF10, gF11, gF12, gF13, gF14, gF15, gF16, gF17, gF18, gF19, pF0, pF1, pF2, pF3, pF4, pF5, pF6, pF7, pF8, pF9, pF10, pF11, pF12, pF13, pF14, pF15, pF16, pF17, pF18, pF19, aI_mk, aL_mk, aA_mk, sI_mk, sL_mk, sA_mk, isO_mk, rl_some, rl_none, true_and, and_true, true_or, or_true, wr_1]
  unfold bI
  by_cases c1 : x < -100000
  · simp [c1, Int32.not_le.mpr c1]
  · by_cases c2 : 100000 < x
    · simp [c1, c2, Int32.not_le.mpr c2]
    · simp [c1, c2, Int32.not_lt.mp c1, Int32.not_lt.mp c2]
end TR
/-- a reading taken in the row with these sets, found or made; none: no room -/
def tkI (d : DD) (x y a : Int32) : Option DD :=
  if fndN (fun j => decide (d.2.1 j = x ∧ d.2.2.1 j = y)) d.1.2.2.2 0 = -1 then
    if d.1.2.2.2 = 12 then none else some ((d.1.1, d.1.2.1, d.1.2.2.1, d.1.2.2.2 + 1), upd d.2.1 d.1.2.2.2 x, upd d.2.2.1 d.1.2.2.2 y, upd (upd d.2.2.2.1 d.1.2.2.2 0) d.1.2.2.2 1, upd d.2.2.2.2 (6 * d.1.2.2.2) a)
  else
    if tkF d.2.2.2.1 (fndN (fun j => decide (d.2.1 j = x ∧ d.2.2.1 j = y)) d.1.2.2.2 0).toNatClampNeg = 6 then none else
    some (d.1, d.2.1, d.2.2.1, upd d.2.2.2.1 (fndN (fun j => decide (d.2.1 j = x ∧ d.2.2.1 j = y)) d.1.2.2.2 0).toNatClampNeg (nI (tkF d.2.2.2.1 (fndN (fun j => decide (d.2.1 j = x ∧ d.2.2.1 j = y)) d.1.2.2.2 0).toNatClampNeg + 1)), upd d.2.2.2.2 (6 * (fndN (fun j => decide (d.2.1 j = x ∧ d.2.2.1 j = y)) d.1.2.2.2 0).toNatClampNeg + tkF d.2.2.2.1 (fndN (fun j => decide (d.2.1 j = x ∧ d.2.2.1 j = y)) d.1.2.2.2 0).toNatClampNeg) a)
theorem tkI_v {d d2 : DD} {x y a : Int32} (hv : vD d) (h : tkI d x y a = some d2) : vD d2 := by
  obtain ⟨v1, v2⟩ := hv
  unfold tkI at h
  have hz := fndN_or (P := fun j => decide (d.2.1 j = x ∧ d.2.2.1 j = y)) d.1.2.2.2 0
  generalize fndN (fun j => decide (d.2.1 j = x ∧ d.2.2.1 j = y)) d.1.2.2.2 0 = z at hz h
  rcases hz with e | ⟨j, -, hj, -, e⟩
  · rw [if_pos e] at h
    split at h
    · cases h
    · cases h
      refine ⟨by show d.1.2.2.2 + 1 ≤ 12; omega, fun i hi => ?_⟩
      have hi2 : i < d.1.2.2.2 + 1 := hi
      show upd (upd d.2.2.2.1 d.1.2.2.2 0) d.1.2.2.2 1 i = nI (tkF (upd (upd d.2.2.2.1 d.1.2.2.2 0) d.1.2.2.2 1) i) ∧ tkF (upd (upd d.2.2.2.1 d.1.2.2.2 0) d.1.2.2.2 1) i ≤ 6
      unfold tkF
      by_cases c : i = d.1.2.2.2
      · rw [c, pk_us]
        exact ⟨by decide, by decide⟩
      · rw [pk_un c, pk_un c]
        exact v2 i (by omega)
  · rw [e, if_neg (nI_m1 (a := j) (by omega)), cl_nI (j := j) (by omega)] at h
    obtain ⟨t1, t2⟩ := v2 j (by omega)
    split at h
    · cases h
    · cases h
      refine ⟨v1, fun i hi => ?_⟩
      have hi2 : i < d.1.2.2.2 := hi
      show upd d.2.2.2.1 j (nI (tkF d.2.2.2.1 j + 1)) i = nI (tkF (upd d.2.2.2.1 j (nI (tkF d.2.2.2.1 j + 1))) i) ∧ tkF (upd d.2.2.2.1 j (nI (tkF d.2.2.2.1 j + 1))) i ≤ 6
      by_cases c : i = j
      · have e2 : tkF (upd d.2.2.2.1 j (nI (tkF d.2.2.2.1 j + 1))) i = tkF d.2.2.2.1 j + 1 := by
          show (upd d.2.2.2.1 j (nI (tkF d.2.2.2.1 j + 1)) i).toNatClampNeg = _
          rw [c, pk_us]
          exact cl_nI (by omega)
        rw [e2, c, pk_us]
        exact ⟨rfl, by omega⟩
      · have e2 : tkF (upd d.2.2.2.1 j (nI (tkF d.2.2.2.1 j + 1))) i = tkF d.2.2.2.1 i := by
          show (upd d.2.2.2.1 j (nI (tkF d.2.2.2.1 j + 1)) i).toNatClampNeg = _
          rw [pk_un c]
          rfl
        rw [e2, pk_un c]
        exact v2 i hi2
section TS
variable {w : xW} {b o t tr len p e : Nat} {cf : Nat → Int32} {d : DD} {l r a nx x y : Int32} {Q : Option Value → xW → Prop}
theorem cc11 (D : isDD w o d) (hv : vD d) (K0 : tkI d x y a = none → Q (some (.int 0)) w) (K1 : ∀ w2 d2, tkI d x y a = some d2 → fr w w2 o (o + 5) → isDD w2 o d2 → Q (some (.int 1)) w2) : Wp 11 b 0 [.ref o, .int x, .int y, .int a, x_no] [] w Q := by
  have v1 := hv.1
  refine c11 D hv (fun h => K0 ?_) (fun i w2 h1 h2 h3 h4 h5 => K1 w2 (d.1, d.2.1, d.2.2.1, upd d.2.2.2.1 i (nI (tkF d.2.2.2.1 i + 1)), upd d.2.2.2.2 (6 * i + tkF d.2.2.2.1 i) a) ?_ h4 h5) (fun w2 h1 h2 h3 h4 => K1 w2 ((d.1.1, d.1.2.1, d.1.2.2.1, d.1.2.2.2 + 1), upd d.2.1 d.1.2.2.2 x, upd d.2.2.1 d.1.2.2.2 y, upd (upd d.2.2.2.1 d.1.2.2.2 0) d.1.2.2.2 1, upd d.2.2.2.2 (6 * d.1.2.2.2) a) ?_ h3 h4)
  · unfold tkI
    rcases h with ⟨h1, h2⟩ | ⟨i, h1, h2, h3⟩
    · rw [if_pos h2, if_pos h1]
    · rw [h2, if_neg (nI_m1 (a := i) (by omega)), cl_nI (j := i) (by omega), if_pos h3]
  · unfold tkI
    rw [h2, if_neg (nI_m1 (a := i) (by omega)), cl_nI (j := i) (by omega), if_neg (by omega)]
  · unfold tkI
    rw [if_pos h2, if_neg (by omega)]
/-- one row of a text: the reason why it is not possible (0: it is), the design and the place behind -/
def stF (cf : Nat → Int32) (len : Nat) (d : DD) (p : Nat) : Int32 × DD × Nat := match prF cf len p with
  | none => (1, d, p)
  | some z => if ¬ (z.1.1 &&& z.1.2.1) = 0 then (2, d, p) else if ¬ (-100000 ≤ z.1.2.2 ∧ z.1.2.2 ≤ 100000) then (3, d, p) else match tkI d z.1.1 z.1.2.1 z.1.2.2 with
    | none => (4, d, p)
    | some d2 => (0, d2, z.2)
def isR (w : xW) (tr e p : Nat) (rs : Int32) : Prop := rd w tr = .inr (4, [.ref (tr + 1), .int (nI e), .int (nI p), .int rs])
theorem c56 {rs : Int32} (R : isR w tr e p rs) (D : isDD w (tr + 1) d) (X : isX w t cf len l r a nx) (v : vX cf len) (hv : vD d) (hp : p ≤ 80) (hs : t + 2 ≤ tr ∨ tr + 6 ≤ t) (K : ∀ w2 l2 r2 a2 nx2, (∀ k, (k < tr + 1 ∨ tr + 6 ≤ k) → k ≠ t → rd w2 k = rd w k) → w2.1 = w.1 → w2.2.2 = w.2.2 → isDD w2 (tr + 1) (stF cf len d p).2.1 → isX w2 t cf len l2 r2 a2 nx2 → ((stF cf len d p).1 = 0 → nx2 = nI (stF cf len d p).2.2 ∧ (stF cf len d p).2.2 ≤ 80 ∧ p < (stF cf len d p).2.2) → vD (stF cf len d p).2.1 → Q (some (.int (stF cf len d p).1)) w2) : Wp 56 b 0 [.ref tr, .ref t] [] w Q := by
  have z1 : ¬ (1 : Int32) = 0 := by decide
  have X0 := X
  obtain ⟨x0, x1⟩ := X
  unfold isR at R
  simp only [q56_0, q56_1, q56_2, q56_5, gF0, gF1, gF2, gF3, gF4, gF5, gF6, gF7, gF8, gF9, gF10, gF11, gF12, gF13, gF14, gF15, gF16, gF17, gF18, gF19, pF0, pF1, pF2, pF3, pF4, pF5, pF6, pF7, pF8, pF9, pF10, pF11, pF12, pF13, pF14, pF15, pF16, pF17, pF18, pF19, aI_mk, aL_mk, aA_mk, sI_mk, sL_mk, sA_mk, isO_mk, rl_some, rl_none, true_and, and_true, true_or, or_true, wr_1, R, x0]
  refine c48 X0 v hp (fun w2 l2 r2 a2 nx2 h f2 X2 => ?_) (fun w2 z h f2 X2 h80 hlt => ?_)
  · have e1 : stF cf len d p = (1, d, p) := by
      unfold stF
      rw [h]
    rw [e1] at K
    simp only [q56_8, q56_11, q56_12, gF0, gF1, gF2, gF3, gF4, gF5, gF6, gF7, gF8, gF9, gF10, gF11, gF12, gF13, gF14, gF15, gF16, gF17, gF18, gF19, pF0, pF1, pF2, pF3, pF4, pF5, pF6, pF7, pF8, pF9, pF10, pF11, pF12, pF13, pF14, pF15, pF16, pF17, pF18, pF19, aI_mk, aL_mk, aA_mk, sI_mk, sL_mk, sA_mk, isO_mk, rl_some, rl_none, true_and, and_true, true_or, or_true, wr_1, not_true, if_false]
    exact K w2 l2 r2 a2 nx2 (fun k _ hk => f2.2.2 k (by omega)) f2.1 f2.2.1 (D.fr f2 (by omega)) X2 (fun q => absurd (show (1 : Int32) = 0 from q) (by decide)) hv
  · have D2 : isDD w2 (tr + 1) d := D.fr f2 (by omega)
    have R2 : rd w2 tr = .inr (4, [.ref (tr + 1), .int (nI e), .int (nI p), .int rs]) := (f2.2.2 tr (by omega)).trans R
    have X20 := X2
    obtain ⟨x0, x1⟩ := X2
    simp only [q56_8, q56_11, q56_12, q56_13, q56_14, q56_17, q56_18, q56_21, q56_22, gF0, gF1, gF2, gF3, gF4, gF5, gF6, gF7, gF8, gF9, gF10, gF11, gF12, gF13, gF14, gF15, gF16, gF17, gF18, gF19, pF0, pF1, pF2, pF3, pF4, pF5, pF6, pF7, pF8, pF9, pF10, pF11, pF12, pF13, pF14, pF15, pF16, pF17, pF18, pF19, aI_mk, aL_mk, aA_mk, sI_mk, sL_mk, sA_mk, isO_mk, rl_some, rl_none, true_and, and_true, true_or, or_true, wr_1, z1, not_false_eq_true, if_true, x0]
    by_cases ca : z.1.1 &&& z.1.2.1 = 0
    · rw [if_pos ca]
      simp only [q56_27, q56_28, q56_31, q56_34, gF0, gF1, gF2, gF3, gF4, gF5, gF6, gF7, gF8, gF9, gF10, gF11, gF12, gF13, gF14, gF15, gF16, gF17, gF18, gF19, pF0, pF1, pF2, pF3, pF4, pF5, pF6, pF7, pF8, pF9, pF10, pF11, pF12, pF13, pF14, pF15, pF16, pF17, pF18, pF19, aI_mk, aL_mk, aA_mk, sI_mk, sL_mk, sA_mk, isO_mk, rl_some, rl_none, true_and, and_true, true_or, or_true, wr_1, x0, c84]
      by_cases cb : -100000 ≤ z.1.2.2 ∧ z.1.2.2 ≤ 100000
      · rw [bI_t cb]
        obtain ⟨fs, hfs⟩ := D2.ob
        simp only [z1, not_false_eq_true, if_true]
        simp only [q56_39, q56_40, q56_43, q56_44, q56_47, q56_48, q56_51, q56_52, q56_55, gF0, gF1, gF2, gF3, gF4, gF5, gF6, gF7, gF8, gF9, gF10, gF11, gF12, gF13, gF14, gF15, gF16, gF17, gF18, gF19, pF0, pF1, pF2, pF3, pF4, pF5, pF6, pF7, pF8, pF9, pF10, pF11, pF12, pF13, pF14, pF15, pF16, pF17, pF18, pF19, aI_mk, aL_mk, aA_mk, sI_mk, sL_mk, sA_mk, isO_mk, rl_some, rl_none, true_and, and_true, true_or, or_true, wr_1, R2, x0, hfs]
        refine cc11 D2 hv (fun h2 => ?_) (fun w3 d3 h2 f3 D3 => ?_)
        · have e1 : stF cf len d p = (4, d, p) := by
            unfold stF
            rw [h]
            simp only [ca, cb, h2, not_true, if_false, and_self]
          rw [e1] at K
          simp only [q56_58, q56_61, q56_62, q56_65, q56_66, gF0, gF1, gF2, gF3, gF4, gF5, gF6, gF7, gF8, gF9, gF10, gF11, gF12, gF13, gF14, gF15, gF16, gF17, gF18, gF19, pF0, pF1, pF2, pF3, pF4, pF5, pF6, pF7, pF8, pF9, pF10, pF11, pF12, pF13, pF14, pF15, pF16, pF17, pF18, pF19, aI_mk, aL_mk, aA_mk, sI_mk, sL_mk, sA_mk, isO_mk, rl_some, rl_none, true_and, and_true, true_or, or_true, wr_1, if_true]
          exact K w2 _ _ _ _ (fun k _ hk => f2.2.2 k (by omega)) f2.1 f2.2.1 D2 X20 (fun q => absurd (show (4 : Int32) = 0 from q) (by decide)) hv
        · have e1 : stF cf len d p = (0, d3, z.2) := by
            unfold stF
            rw [h]
            simp only [ca, cb, h2, not_true, if_false, and_self]
          rw [e1] at K
          simp only [q56_58, q56_61, q56_62, q56_65, q56_66, gF0, gF1, gF2, gF3, gF4, gF5, gF6, gF7, gF8, gF9, gF10, gF11, gF12, gF13, gF14, gF15, gF16, gF17, gF18, gF19, pF0, pF1, pF2, pF3, pF4, pF5, pF6, pF7, pF8, pF9, pF10, pF11, pF12, pF13, pF14, pF15, pF16, pF17, pF18, pF19, aI_mk, aL_mk, aA_mk, sI_mk, sL_mk, sA_mk, isO_mk, rl_some, rl_none, true_and, and_true, true_or, or_true, wr_1, z1, if_false]
          exact K w3 _ _ _ _ (fun k hk1 hk2 => (f3.2.2 k (by omega)).trans (f2.2.2 k (by omega))) (f3.1.trans f2.1) (f3.2.1.trans f2.2.1) D3 (X20.fr f3 (by omega)) (fun _ => ⟨rfl, h80, hlt⟩) (tkI_v hv h2)
      · rw [bI_f cb]
        have e1 : stF cf len d p = (3, d, p) := by
          unfold stF
          rw [h]
          simp only [ca, cb, not_true, if_false, not_false_eq_true, if_true]
        rw [e1] at K
        simp only [not_true, if_false]
        simp only [q56_37, q56_38, gF0, gF1, gF2, gF3, gF4, gF5, gF6, gF7, gF8, gF9, gF10, gF11, gF12, gF13, gF14, gF15, gF16, gF17, gF18, gF19, pF0, pF1, pF2, pF3, pF4, pF5, pF6, pF7, pF8, pF9, pF10, pF11, pF12, pF13, pF14, pF15, pF16, pF17, pF18, pF19, aI_mk, aL_mk, aA_mk, sI_mk, sL_mk, sA_mk, isO_mk, rl_some, rl_none, true_and, and_true, true_or, or_true, wr_1]
        exact K w2 _ _ _ _ (fun k _ hk => f2.2.2 k (by omega)) f2.1 f2.2.1 D2 X20 (fun q => absurd (show (3 : Int32) = 0 from q) (by decide)) hv
    · rw [if_neg ca]
      have e1 : stF cf len d p = (2, d, p) := by
        unfold stF
        rw [h]
        simp only [ca, not_false_eq_true, if_true]
      rw [e1] at K
      simp only [q56_25, q56_26, gF0, gF1, gF2, gF3, gF4, gF5, gF6, gF7, gF8, gF9, gF10, gF11, gF12, gF13, gF14, gF15, gF16, gF17, gF18, gF19, pF0, pF1, pF2, pF3, pF4, pF5, pF6, pF7, pF8, pF9, pF10, pF11, pF12, pF13, pF14, pF15, pF16, pF17, pF18, pF19, aI_mk, aL_mk, aA_mk, sI_mk, sL_mk, sA_mk, isO_mk, rl_some, rl_none, true_and, and_true, true_or, or_true, wr_1]
      exact K w2 _ _ _ _ (fun k _ hk => f2.2.2 k (by omega)) f2.1 f2.2.1 D2 X20 (fun q => absurd (show (2 : Int32) = 0 from q) (by decide)) hv
/-- the rows of a text, at most k: reason, design, place of the fault or the end, rows entered -/
def rnF (cf : Nat → Int32) (len : Nat) : Nat → DD → Nat → Nat → Int32 × DD × Nat × Nat
  | 0, d, p, e => (0, d, p, e)
  | k + 1, d, p, e => if p < len then (if (stF cf len d p).1 = 0 then rnF cf len k (stF cf len d p).2.1 (stF cf len d p).2.2 (e + 1) else ((stF cf len d p).1, (stF cf len d p).2.1, p, e)) else (0, d, p, e)
theorem l55 {o : Nat} (v : vX cf len) (hs : t + 2 ≤ tr ∨ tr + 6 ≤ t) : ∀ (k n : Nat) (w : xW) (d : DD) (p e : Nat) (l r a nx : Int32), n + k = 80 → p ≤ 80 → e ≤ n → isR w tr e p 0 → isDD w (tr + 1) d → vD d → isX w t cf len l r a nx → (∀ w2 l2 r2 a2 nx2, (∀ j, (j < tr ∨ tr + 6 ≤ j) → j ≠ t → rd w2 j = rd w j) → w2.1 = w.1 → w2.2.2 = w.2.2 → isR w2 tr (rnF cf len k d p e).2.2.2 (rnF cf len k d p e).2.2.1 (rnF cf len k d p e).1 → isDD w2 (tr + 1) (rnF cf len k d p e).2.1 → vD (rnF cf len k d p e).2.1 → isX w2 t cf len l2 r2 a2 nx2 → Q none w2) → Wp 55 b 25 [.ref tr, .ref t, .ref o, .int (nI n)] [] w Q := by
  intro k
  induction k with
  | zero =>
    intro n w d p e l r a nx hn hp he R D hv X K
    have hc : (80 : Int32) ≤ nI n := by rw [show n = 80 by omega]; decide
    simp only [q55_25, q55_26, q55_28, q55_83, gF0, gF1, gF2, gF3, gF4, gF5, gF6, gF7, gF8, gF9, gF10, gF11, gF12, gF13, gF14, gF15, gF16, gF17, gF18, gF19, pF0, pF1, pF2, pF3, pF4, pF5, pF6, pF7, pF8, pF9, pF10, pF11, pF12, pF13, pF14, pF15, pF16, pF17, pF18, pF19, aI_mk, aL_mk, aA_mk, sI_mk, sL_mk, sA_mk, isO_mk, rl_some, rl_none, true_and, and_true, true_or, or_true, wr_1, if_pos hc]
    exact K w l r a nx (fun _ _ _ => rfl) rfl rfl R D hv X
  | succ k ih =>
    intro n w d p e l r a nx hn hp he R D hv X K
    have hc : ¬ (80 : Int32) ≤ nI n := by rw [show (80 : Int32) = nI 80 from rfl, nI_le' (by omega) (by omega)]; omega
    have hv1 := v.1
    have R0 := R
    unfold isR at R
    have X0 := X
    obtain ⟨x0, x1⟩ := X
    simp only [q55_25]
    simp only [q55_26, q55_28, q55_31, q55_32, q55_35, q55_36, q55_39, gF0, gF1, gF2, gF3, gF4, gF5, gF6, gF7, gF8, gF9, gF10, gF11, gF12, gF13, gF14, gF15, gF16, gF17, gF18, gF19, pF0, pF1, pF2, pF3, pF4, pF5, pF6, pF7, pF8, pF9, pF10, pF11, pF12, pF13, pF14, pF15, pF16, pF17, pF18, pF19, aI_mk, aL_mk, aA_mk, sI_mk, sL_mk, sA_mk, isO_mk, rl_some, rl_none, true_and, and_true, true_or, or_true, wr_1, if_neg hc, R, x0]
    by_cases cp : p < len
    · have hq : ¬ nI len ≤ nI p := by rw [nI_le' (by omega) (by omega)]; omega
      rw [if_neg hq]
      have er : rnF cf len (k + 1) d p e = (if (stF cf len d p).1 = 0 then rnF cf len k (stF cf len d p).2.1 (stF cf len d p).2.2 (e + 1) else ((stF cf len d p).1, (stF cf len d p).2.1, p, e)) := if_pos cp
      rw [er] at K
      simp only [q55_42, q55_43, q55_44, q55_45, gF0, gF1, gF2, gF3, gF4, gF5, gF6, gF7, gF8, gF9, gF10, gF11, gF12, gF13, gF14, gF15, gF16, gF17, gF18, gF19, pF0, pF1, pF2, pF3, pF4, pF5, pF6, pF7, pF8, pF9, pF10, pF11, pF12, pF13, pF14, pF15, pF16, pF17, pF18, pF19, aI_mk, aL_mk, aA_mk, sI_mk, sL_mk, sA_mk, isO_mk, rl_some, rl_none, true_and, and_true, true_or, or_true, wr_1, R]
      refine c56 R0 D X0 v hv hp hs (fun w2 l2 r2 a2 nx2 f1 f2 f3 D2 X2 hz hv2 => ?_)
      generalize stF cf len d p = z at K D2 hz hv2 ⊢
      have R2 : rd w2 tr = .inr (4, [.ref (tr + 1), .int (nI e), .int (nI p), .int 0]) := (f1 tr (by omega) (by omega)).trans R
      have g1 : fr w2 (wr w2 tr (.inr (4, [.ref (tr + 1), .int (nI e), .int (nI p), .int z.1]))) tr (tr + 1) := fr.wr (by omega) (by omega)
      simp only [q55_48, q55_51, q55_52, q55_55, gF0, gF1, gF2, gF3, gF4, gF5, gF6, gF7, gF8, gF9, gF10, gF11, gF12, gF13, gF14, gF15, gF16, gF17, gF18, gF19, pF0, pF1, pF2, pF3, pF4, pF5, pF6, pF7, pF8, pF9, pF10, pF11, pF12, pF13, pF14, pF15, pF16, pF17, pF18, pF19, aI_mk, aL_mk, aA_mk, sI_mk, sL_mk, sA_mk, isO_mk, rl_some, rl_none, true_and, and_true, true_or, or_true, wr_1, R2, rd_s]
      by_cases cz : z.1 = 0
      · rw [if_pos cz]
        rw [if_pos cz] at K
        obtain ⟨y1, y2, y3⟩ := hz cz
        have X20 := X2
        obtain ⟨x0, x1⟩ := X2
        have ntr : t ≠ tr := by omega
        simp only [q55_59, q55_60, q55_61, q55_64, q55_65, q55_66, q55_69, q55_70, q55_71, q55_74, q55_77, q55_80, gF0, gF1, gF2, gF3, gF4, gF5, gF6, gF7, gF8, gF9, gF10, gF11, gF12, gF13, gF14, gF15, gF16, gF17, gF18, gF19, pF0, pF1, pF2, pF3, pF4, pF5, pF6, pF7, pF8, pF9, pF10, pF11, pF12, pF13, pF14, pF15, pF16, pF17, pF18, pF19, aI_mk, aL_mk, aA_mk, sI_mk, sL_mk, sA_mk, isO_mk, rl_some, rl_none, true_and, and_true, true_or, or_true, wr_1, rd_s, rd_n ntr, x0, nI_1, y1]
        have eqw : wr (wr (wr w2 tr (.inr (4, [.ref (tr + 1), .int (nI e), .int (nI p), .int z.1]))) tr (.inr (4, [.ref (tr + 1), .int (nI (e + 1)), .int (nI p), .int z.1]))) tr (.inr (4, [.ref (tr + 1), .int (nI (e + 1)), .int (nI z.2.2), .int z.1])) = wr w2 tr (.inr (4, [.ref (tr + 1), .int (nI (e + 1)), .int (nI z.2.2), .int z.1])) := by
          unfold wr
          refine Prod.ext rfl (Prod.ext (funext fun j => ?_) rfl)
          by_cases h : j = tr
          · simp [h]
          · simp [h]
        rw [eqw]
        have g2 : fr w2 (wr w2 tr (.inr (4, [.ref (tr + 1), .int (nI (e + 1)), .int (nI z.2.2), .int z.1]))) tr (tr + 1) := fr.wr (by omega) (by omega)
        have Rn : isR (wr w2 tr (.inr (4, [.ref (tr + 1), .int (nI (e + 1)), .int (nI z.2.2), .int z.1]))) tr (e + 1) z.2.2 0 := by
          unfold isR
          rw [rd_s, cz]
        refine ih (n + 1) _ z.2.1 z.2.2 (e + 1) l2 r2 a2 nx2 (by omega) y2 (by omega) Rn (D2.fr g2 (by omega)) hv2 (X20.fr g2 (by omega)) (fun w3 l3 r3 a3 nx3 k1 k2 k3 => K w3 l3 r3 a3 nx3 (fun j h1 h2 => ?_) (k2.trans f2) (k3.trans f3))
        rw [k1 j h1 h2, rd_n (by omega)]
        exact f1 j (by omega) h2
      · rw [if_neg cz]
        rw [if_neg cz] at K
        simp only [q55_58, gF0, gF1, gF2, gF3, gF4, gF5, gF6, gF7, gF8, gF9, gF10, gF11, gF12, gF13, gF14, gF15, gF16, gF17, gF18, gF19, pF0, pF1, pF2, pF3, pF4, pF5, pF6, pF7, pF8, pF9, pF10, pF11, pF12, pF13, pF14, pF15, pF16, pF17, pF18, pF19, aI_mk, aL_mk, aA_mk, sI_mk, sL_mk, sA_mk, isO_mk, rl_some, rl_none, true_and, and_true, true_or, or_true, wr_1]
        refine K _ l2 r2 a2 nx2 (fun j h1 h2 => ?_) f2 f3 rd_s (D2.fr g1 (by omega)) hv2 (X2.fr g1 (by omega))
        rw [rd_n (by omega)]
        exact f1 j (by omega) h2
    · have hq : nI len ≤ nI p := nI_le (by omega) (by omega)
      rw [if_pos hq]
      have er : rnF cf len (k + 1) d p e = (0, d, p, e) := if_neg cp
      rw [er] at K
      simp only [q55_83, gF0, gF1, gF2, gF3, gF4, gF5, gF6, gF7, gF8, gF9, gF10, gF11, gF12, gF13, gF14, gF15, gF16, gF17, gF18, gF19, pF0, pF1, pF2, pF3, pF4, pF5, pF6, pF7, pF8, pF9, pF10, pF11, pF12, pF13, pF14, pF15, pF16, pF17, pF18, pF19, aI_mk, aL_mk, aA_mk, sI_mk, sL_mk, sA_mk, isO_mk, rl_some, rl_none, true_and, and_true, true_or, or_true, wr_1]
      exact K w l r a nx (fun _ _ _ => rfl) rfl rfl R0 D hv X0
theorem c55 {e p : Nat} {rs : Int32} {d' : DD} (R : isR w tr e p rs) (D : isDD w (tr + 1) d') (O : isDD w o d) (X : isX w t cf len l r a nx) (v : vX cf len) (hv : vD d) (hs : t + 2 ≤ tr ∨ tr + 6 ≤ t) (ho : o + 5 ≤ tr ∨ tr + 6 ≤ o) (hto : t + 2 ≤ o ∨ o + 5 ≤ t) (K : ∀ w2 d1 l2 r2 a2 nx2, eqD d1 d → (∀ j, (j < tr ∨ tr + 6 ≤ j) → j ≠ t → rd w2 j = rd w j) → w2.1 = w.1 → w2.2.2 = w.2.2 → isR w2 tr (rnF cf len 80 d1 0 0).2.2.2 (rnF cf len 80 d1 0 0).2.2.1 (rnF cf len 80 d1 0 0).1 → isDD w2 (tr + 1) (rnF cf len 80 d1 0 0).2.1 → vD (rnF cf len 80 d1 0 0).2.1 → isX w2 t cf len l2 r2 a2 nx2 → Q none w2) : Wp 55 b 0 [.ref tr, .ref t, .ref o, x_no] [] w Q := by
  have R0 := R
  unfold isR at R
  obtain ⟨fs, hfs⟩ := D.ob
  simp only [q55_0, q55_1, q55_4, q55_5, gF0, gF1, gF2, gF3, gF4, gF5, gF6, gF7, gF8, gF9, gF10, gF11, gF12, gF13, gF14, gF15, gF16, gF17, gF18, gF19, pF0, pF1, pF2, pF3, pF4, pF5, pF6, pF7, pF8, pF9, pF10, pF11, pF12, pF13, pF14, pF15, pF16, pF17, pF18, pF19, aI_mk, aL_mk, aA_mk, sI_mk, sL_mk, sA_mk, isO_mk, rl_some, rl_none, true_and, and_true, true_or, or_true, wr_1, R, hfs]
  refine cc1 D O hv (by omega) (fun w1 d1 f1 D1 q1 => ?_)
  have R1 : rd w1 tr = .inr (4, [.ref (tr + 1), .int (nI e), .int (nI p), .int rs]) := (f1.2.2 tr (by omega)).trans R
  simp only [q55_8, q55_9, q55_10, q55_13, q55_14, q55_15, q55_18, q55_19, q55_20, q55_23, q55_24, gF0, gF1, gF2, gF3, gF4, gF5, gF6, gF7, gF8, gF9, gF10, gF11, gF12, gF13, gF14, gF15, gF16, gF17, gF18, gF19, pF0, pF1, pF2, pF3, pF4, pF5, pF6, pF7, pF8, pF9, pF10, pF11, pF12, pF13, pF14, pF15, pF16, pF17, pF18, pF19, aI_mk, aL_mk, aA_mk, sI_mk, sL_mk, sA_mk, isO_mk, rl_some, rl_none, true_and, and_true, true_or, or_true, wr_1, R1, rd_s]
  have eqw : wr (wr (wr w1 tr (.inr (4, [.ref (tr + 1), .int 0, .int (nI p), .int rs]))) tr (.inr (4, [.ref (tr + 1), .int 0, .int 0, .int rs]))) tr (.inr (4, [.ref (tr + 1), .int 0, .int 0, .int 0])) = wr w1 tr (.inr (4, [.ref (tr + 1), .int 0, .int 0, .int 0])) := by
    unfold wr
    refine Prod.ext rfl (Prod.ext (funext fun j => ?_) rfl)
    by_cases h : j = tr
    · simp [h]
    · simp [h]
  rw [eqw]
  have g1 : fr w1 (wr w1 tr (.inr (4, [.ref (tr + 1), .int 0, .int 0, .int 0]))) tr (tr + 1) := fr.wr (by omega) (by omega)
  refine l55 (o := o) v hs 80 0 _ d1 0 0 l r a nx (by omega) (by omega) (by omega) rd_s (D1.fr g1 (by omega)) (q1.v hv) ((X.fr f1 (by omega)).fr g1 (by omega)) (fun w3 l3 r3 a3 nx3 k1 k2 k3 => K w3 d1 l3 r3 a3 nx3 q1 (fun j h1 h2 => ?_) (k2.trans f1.1) (k3.trans f1.2.1))
  rw [k1 j h1 h2, rd_n (by omega)]
  exact f1.2.2 j (by omega)
end TS
