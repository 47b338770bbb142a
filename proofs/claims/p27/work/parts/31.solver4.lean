section SY
variable {w : xW} {b o v : Nat} {s p l u : Int32} {n U : Nat} {lf rf tf mf : Nat → Int32} {det : Int64} {N : Nat → Nat → Int64} {S M V : Nat → Int64} {Q : Option Value → xW → Prop}
/-- without one reading: the equations and the sums -/
def gN1 (n : Nat) (lf rf tf : Nat → Int32) (r i j : Nat) : Int64 := gN n lf rf tf i j + wN lf rf r (-1) i j
def gS1 (n : Nat) (s : Int32) (lf rf tf mf : Nat → Int32) (r k i : Nat) : Int64 := gS n s lf rf tf mf i + wS s lf rf r (-1) (-mf (6 * r + k)) i
theorem c35 (D : isD w o s p l n lf rf tf mf) (H : isS w v u det N S M V) (hT : vT n tf) (hp : isU p U) (hs : o + 5 ≤ v ∨ v + 10 ≤ o) {r k : Nat} (hr : r < n) (hk : k < 6) (K : ∀ w2 N2 S2 M2 V2, fr w w2 v (v + 10) → isS w2 v (nI U) (dtF U (gN1 n lf rf tf r)) N2 S2 M2 V2 → (¬ dtF U (gN1 n lf rf tf r) = 0 → ∀ a, a < U → V2 a = dtF U (enF (nI a) (gN1 n lf rf tf r) (gS1 n s lf rf tf mf r k))) → Q (some (.int (bI (¬ dtF U (gN1 n lf rf tf r) = 0)))) w2) : Wp 35 b 0 [.ref v, .ref o, .int (nI r), .int (nI k)] [] w Q := by
  have hn := hT.1
  obtain ⟨h0, -⟩ := id H
  simp only [q35_0, q35_1, q35_2, gF0, gF1, gF2, gF3, gF4, gF5, gF6, gF7, gF8, gF9, gF10, gF11, gF12, gF13, gF14, gF15, gF16, gF17, gF18, gF19, pF0, pF1, pF2, pF3, pF4, pF5, pF6, pF7, pF8, pF9, pF10, pF11, pF12, pF13, pF14, pF15, pF16, pF17, pF18, pF19, aI_mk, aL_mk, aA_mk, sI_mk, sL_mk, sA_mk, isO_mk, rl_some, rl_none, true_and, and_true, true_or, or_true, wr_1, h0]
  refine c39 D H hT hp hs (fun w2 N2 S2 f2 H2 e1 e2 => ?_)
  obtain ⟨g0, -⟩ := id H2
  have D2 := D.fr f2 (by omega)
  obtain ⟨d0, -⟩ := id D2
  simp only [q35_5, q35_6, q35_7, q35_8, q35_9, q35_10, q35_11, q35_12, q35_15, q35_16, gF0, gF1, gF2, gF3, gF4, gF5, gF6, gF7, gF8, gF9, gF10, gF11, gF12, gF13, gF14, gF15, gF16, gF17, gF18, gF19, pF0, pF1, pF2, pF3, pF4, pF5, pF6, pF7, pF8, pF9, pF10, pF11, pF12, pF13, pF14, pF15, pF16, pF17, pF18, pF19, aI_mk, aL_mk, aA_mk, sI_mk, sL_mk, sA_mk, isO_mk, rl_some, rl_none, true_and, and_true, true_or, or_true, wr_1, g0, d0, c5 D2 (show r < 12 by omega) hk]
  refine c40 D2 H2 (by omega) (by have := hp.2; omega) hs (fun w3 N3 S3 f3 H3 k1 k2 => ?_)
  obtain ⟨g0, -⟩ := id H3
  simp only [q35_19, q35_20, gF0, gF1, gF2, gF3, gF4, gF5, gF6, gF7, gF8, gF9, gF10, gF11, gF12, gF13, gF14, gF15, gF16, gF17, gF18, gF19, pF0, pF1, pF2, pF3, pF4, pF5, pF6, pF7, pF8, pF9, pF10, pF11, pF12, pF13, pF14, pF15, pF16, pF17, pF18, pF19, aI_mk, aL_mk, aA_mk, sI_mk, sL_mk, sA_mk, isO_mk, rl_some, rl_none, true_and, and_true, true_or, or_true, wr_1, g0]
  refine c43 H3 hp.2 (fun w4 M4 V4 f4 H4 e4 => ?_)
  simp only [q35_23, gF0, gF1, gF2, gF3, gF4, gF5, gF6, gF7, gF8, gF9, gF10, gF11, gF12, gF13, gF14, gF15, gF16, gF17, gF18, gF19, pF0, pF1, pF2, pF3, pF4, pF5, pF6, pF7, pF8, pF9, pF10, pF11, pF12, pF13, pF14, pF15, pF16, pF17, pF18, pF19, aI_mk, aL_mk, aA_mk, sI_mk, sL_mk, sA_mk, isO_mk, rl_some, rl_none, true_and, and_true, true_or, or_true, wr_1, bI_01]
  have a1 : ∀ a c, a < U → c < U → N3 a c = gN1 n lf rf tf r a c := fun a c ha hc => by
    rw [k1 a c ha hc, e1 a c ha hc]
    rfl
  rw [dtF_congr hp.2 a1] at H4 e4 ⊢
  refine K w4 N3 S3 M4 V4 ((f2.tr f3).tr f4) H4 (fun q a ha => (e4 q a ha).trans (dtF_congr hp.2 (fun x c hx hc => ?_)))
  unfold enF
  by_cases h : nI c = nI a
  · rw [if_pos h, if_pos h, k2 x hx, e2 x hx]
    rfl
  · rw [if_neg h, if_neg h, a1 x c hx hc]
/-- a residual over the determinant -/
def rsF (s : Int32) (lf rf mf : Nat → Int32) (U : Nat) (det : Int64) (V : Nat → Int64) (r k : Nat) : Int64 := foldN (fun a i => a - (fcF lf rf r (nI i)).toInt64 * V i) U 0 (det * ((mf (6 * r + k)).toInt64 - (sgF lf rf r 0).toInt64 * s.toInt64))
theorem l36 (D : isD w o s p l n lf rf tf mf) (H : isS w v (nI U) det N S M V) (hU : U ≤ 5) {r k : Nat} {kn : Int64} (hr : r < 12) : ∀ (c i : Nat) (a : Int64), i + c = U → (Wp 36 b 35 [.ref v, .ref o, .int (nI r), .int (nI k), .long kn, x_no, .long a, x_no, .int (nI i)] [] w Q ↔ Q (some (.long (foldN (fun a i => a - (fcF lf rf r (nI i)).toInt64 * V i) c i a))) w) := by
  obtain ⟨h0, -, -, -, -, h5⟩ := H
  have D0 := D
  obtain ⟨d0, -⟩ := D
  intro c
  induction c with
  | zero =>
    intro i a hi
    have hc : nI U ≤ nI i := nI_le (by omega) (by omega)
    simp only [q36_35, q36_37, q36_38, q36_41, q36_71, q36_73, gF0, gF1, gF2, gF3, gF4, gF5, gF6, gF7, gF8, gF9, gF10, gF11, gF12, gF13, gF14, gF15, gF16, gF17, gF18, gF19, pF0, pF1, pF2, pF3, pF4, pF5, pF6, pF7, pF8, pF9, pF10, pF11, pF12, pF13, pF14, pF15, pF16, pF17, pF18, pF19, aI_mk, aL_mk, aA_mk, sI_mk, sL_mk, sA_mk, isO_mk, rl_some, rl_none, true_and, and_true, true_or, or_true, wr_1, h0, if_pos hc]
    rfl
  | succ c ih =>
    intro i a hi
    have hc : ¬ nI U ≤ nI i := by rw [nI_le' (by omega) (by omega)]; omega
    have hx : x_pl (nI i) 5 := x_pl_nI (by omega) (by omega)
    have hcl : (nI i).toNatClampNeg = i := cl_nI (by omega)
    simp only [q36_35]
    simp only [q36_37, q36_38, q36_41, q36_44, q36_46, q36_47, q36_48, q36_50, q36_53, q36_54, q36_55, q36_58, q36_60, q36_61, q36_62, q36_63, q36_65, q36_68, gF0, gF1, gF2, gF3, gF4, gF5, gF6, gF7, gF8, gF9, gF10, gF11, gF12, gF13, gF14, gF15, gF16, gF17, gF18, gF19, pF0, pF1, pF2, pF3, pF4, pF5, pF6, pF7, pF8, pF9, pF10, pF11, pF12, pF13, pF14, pF15, pF16, pF17, pF18, pF19, aI_mk, aL_mk, aA_mk, sI_mk, sL_mk, sA_mk, isO_mk, rl_some, rl_none, true_and, and_true, true_or, or_true, wr_1, h0, d0, h5, if_neg hc, hx, hcl, c16 D0 hr, nI_1]
    exact ih (i + 1) _ (by omega)
theorem c36 (D : isD w o s p l n lf rf tf mf) (H : isS w v (nI U) det N S M V) (hU : U ≤ 5) {r k : Nat} (hr : r < 12) (hk : k < 6) : Wp 36 b 0 [.ref v, .ref o, .int (nI r), .int (nI k), x_no, x_no, x_no, x_no, x_no] [] w Q ↔ Q (some (.long (rsF s lf rf mf U det V r k))) w := by
  obtain ⟨h0, -⟩ := id H
  obtain ⟨d0, -⟩ := id D
  simp only [q36_0, q36_1, q36_2, q36_3, q36_6, q36_7, q36_8, q36_11, q36_12, q36_13, q36_15, q36_16, q36_19, q36_20, q36_21, q36_22, q36_25, q36_26, q36_28, q36_29, q36_30, q36_32, q36_33, gF0, gF1, gF2, gF3, gF4, gF5, gF6, gF7, gF8, gF9, gF10, gF11, gF12, gF13, gF14, gF15, gF16, gF17, gF18, gF19, pF0, pF1, pF2, pF3, pF4, pF5, pF6, pF7, pF8, pF9, pF10, pF11, pF12, pF13, pF14, pF15, pF16, pF17, pF18, pF19, aI_mk, aL_mk, aA_mk, sI_mk, sL_mk, sA_mk, isO_mk, rl_some, rl_none, true_and, and_true, true_or, or_true, wr_1, d0, h0, c15 D hr, c5 D hr hk]
  exact l36 D H hU hr U 0 _ (by omega)
/-- sums over the readings of a row, over the rows -/
def blF (s : Int32) (lf rf tf mf : Nat → Int32) (U : Nat) (det : Int64) (V : Nat → Int64) (m : Int32) (a : Int64) (r : Nat) : Int64 := foldN (fun a k => a + (sgF lf rf r m).toInt64 * rsF s lf rf mf U det V r k) (tkF tf r) 0 a
theorem l37b (D : isD w o s p l n lf rf tf mf) (H : isS w v (nI U) det N S M V) (hU : U ≤ 5) {r t : Nat} {m : Int32} (hr : r < 12) (ht : tf r = nI t) (ht6 : t ≤ 6) : ∀ (c k : Nat) (a : Int64), k + c = t → (Wp 37 b 26 [.ref v, .ref o, .int m, .long a, x_no, .int (nI r), .int (sgF lf rf r m), .int (nI k)] [] w Q ↔ Wp 37 b 60 [.ref v, .ref o, .int m, .long (foldN (fun a k => a + (sgF lf rf r m).toInt64 * rsF s lf rf mf U det V r k) c k a), x_no, .int (nI r), .int (sgF lf rf r m), .int (nI t)] [] w Q) := by
  obtain ⟨h0, -⟩ := id H
  obtain ⟨d0, d1, d2, d3, d4⟩ := id D
  have hx : x_pl (nI r) 12 := x_pl_nI (by omega) (by omega)
  have hcl : (nI r).toNatClampNeg = r := cl_nI (by omega)
  intro c
  induction c with
  | zero =>
    intro k a hk
    have hc : nI t ≤ nI k := nI_le (by omega) (by omega)
    simp only [q37_26, q37_28, q37_29, q37_32, q37_34, q37_35, gF0, gF1, gF2, gF3, gF4, gF5, gF6, gF7, gF8, gF9, gF10, gF11, gF12, gF13, gF14, gF15, gF16, gF17, gF18, gF19, pF0, pF1, pF2, pF3, pF4, pF5, pF6, pF7, pF8, pF9, pF10, pF11, pF12, pF13, pF14, pF15, pF16, pF17, pF18, pF19, aI_mk, aL_mk, aA_mk, sI_mk, sL_mk, sA_mk, isO_mk, rl_some, rl_none, true_and, and_true, true_or, or_true, wr_1, d0, d3, hx, hcl, ht, if_pos hc]
    rw [show k = t by omega]
    exact Iff.rfl
  | succ c ih =>
    intro k a hk
    have hc : ¬ nI t ≤ nI k := by rw [nI_le' (by omega) (by omega)]; omega
    simp only [q37_26]
    simp only [q37_28, q37_29, q37_32, q37_34, q37_35, q37_38, q37_39, q37_41, q37_42, q37_43, q37_44, q37_46, q37_48, q37_51, q37_52, q37_53, q37_54, q37_57, gF0, gF1, gF2, gF3, gF4, gF5, gF6, gF7, gF8, gF9, gF10, gF11, gF12, gF13, gF14, gF15, gF16, gF17, gF18, gF19, pF0, pF1, pF2, pF3, pF4, pF5, pF6, pF7, pF8, pF9, pF10, pF11, pF12, pF13, pF14, pF15, pF16, pF17, pF18, pF19, aI_mk, aL_mk, aA_mk, sI_mk, sL_mk, sA_mk, isO_mk, rl_some, rl_none, true_and, and_true, true_or, or_true, wr_1, d0, d3, h0, hx, hcl, ht, if_neg hc, c36 D H hU hr (show k < 6 by omega), nI_1]
    exact ih (k + 1) _ (by omega)
theorem l37 (D : isD w o s p l n lf rf tf mf) (H : isS w v (nI U) det N S M V) (hU : U ≤ 5) (hT : vT n tf) {m : Int32} : ∀ (c r : Nat) (a : Int64) (v6 v7 : Value), r + c = n → (Wp 37 b 5 [.ref v, .ref o, .int m, .long a, x_no, .int (nI r), v6, v7] [] w Q ↔ Q (some (.long (foldN (blF s lf rf tf mf U det V m) c r a))) w) := by
  obtain ⟨h0, -⟩ := id H
  obtain ⟨d0, -⟩ := id D
  obtain ⟨hn, hT⟩ := hT
  intro c
  induction c with
  | zero =>
    intro r a v6 v7 hr
    have hc : nI n ≤ nI r := nI_le (by omega) (by omega)
    simp only [q37_5, q37_7, q37_8, q37_11, q37_66, q37_67, gF0, gF1, gF2, gF3, gF4, gF5, gF6, gF7, gF8, gF9, gF10, gF11, gF12, gF13, gF14, gF15, gF16, gF17, gF18, gF19, pF0, pF1, pF2, pF3, pF4, pF5, pF6, pF7, pF8, pF9, pF10, pF11, pF12, pF13, pF14, pF15, pF16, pF17, pF18, pF19, aI_mk, aL_mk, aA_mk, sI_mk, sL_mk, sA_mk, isO_mk, rl_some, rl_none, true_and, and_true, true_or, or_true, wr_1, d0, if_pos hc]
    rfl
  | succ c ih =>
    intro r a v6 v7 hr
    have hc : ¬ nI n ≤ nI r := by rw [nI_le' (by omega) (by omega)]; omega
    obtain ⟨t1, t2⟩ := hT r (by omega)
    simp only [q37_5]
    simp only [q37_7, q37_8, q37_11, q37_14, q37_15, q37_17, q37_18, q37_21, q37_23, q37_24, gF0, gF1, gF2, gF3, gF4, gF5, gF6, gF7, gF8, gF9, gF10, gF11, gF12, gF13, gF14, gF15, gF16, gF17, gF18, gF19, pF0, pF1, pF2, pF3, pF4, pF5, pF6, pF7, pF8, pF9, pF10, pF11, pF12, pF13, pF14, pF15, pF16, pF17, pF18, pF19, aI_mk, aL_mk, aA_mk, sI_mk, sL_mk, sA_mk, isO_mk, rl_some, rl_none, true_and, and_true, true_or, or_true, wr_1, d0, if_neg hc, c15 D (show r < 12 by omega)]
    have := l37b (b := b) (Q := Q) (m := m) D H hU (show r < 12 by omega) t1 t2 (tkF tf r) 0 a (by omega)
    rw [show (0 : Int32) = nI 0 from rfl, this]
    simp only [q37_60, q37_63, gF0, gF1, gF2, gF3, gF4, gF5, gF6, gF7, gF8, gF9, gF10, gF11, gF12, gF13, gF14, gF15, gF16, gF17, gF18, gF19, pF0, pF1, pF2, pF3, pF4, pF5, pF6, pF7, pF8, pF9, pF10, pF11, pF12, pF13, pF14, pF15, pF16, pF17, pF18, pF19, aI_mk, aL_mk, aA_mk, sI_mk, sL_mk, sA_mk, isO_mk, rl_some, rl_none, true_and, and_true, true_or, or_true, wr_1, nI_1]
    exact ih (r + 1) _ _ _ (by omega)
theorem c37 (D : isD w o s p l n lf rf tf mf) (H : isS w v (nI U) det N S M V) (hU : U ≤ 5) (hT : vT n tf) {m : Int32} : Wp 37 b 0 [.ref v, .ref o, .int m, x_no, x_no, x_no, x_no, x_no] [] w Q ↔ Q (some (.long (foldN (blF s lf rf tf mf U det V m) n 0 0))) w := by
  rw [q37_0, q37_1, q37_2, q37_3]
  exact l37 D H hU hT n 0 0 _ _ (by omega)
/-- the worst reading so far (6 * row + number) and its size -/
def woG (s : Int32) (lf rf mf : Nat → Int32) (U : Nat) (det : Int64) (V : Nat → Int64) (r : Nat) (a : Int32 × Int64) (k : Nat) : Int32 × Int64 := if lg_cmp (abL (rsF s lf rf mf U det V r k)) a.2 ≤ 0 then a else (nI (6 * r + k), abL (rsF s lf rf mf U det V r k))
def woF (s : Int32) (lf rf tf mf : Nat → Int32) (U : Nat) (det : Int64) (V : Nat → Int64) (a : Int32 × Int64) (r : Nat) : Int32 × Int64 := foldN (woG s lf rf mf U det V r) (tkF tf r) 0 a
end SY
/-! fractions -/
section FR
variable {w : xW} {b : Nat} {Q : Option Value → xW → Prop}
/-- Euclid's algorithm, k steps -/
def euF : Nat → Int64 → Int64 → Int64
  | 0, x, _ => x
  | k + 1, x, y => if y = 0 then x else euF k y (x - x / y * y)
theorem l91 {f g : Int64} : ∀ (k i : Nat) (x y : Int64) (v9 : Value), i + k = 100 → (Wp 91 b 15 [.long f, x_no, .long g, x_no, .long x, x_no, .long y, x_no, .int (nI i), v9, x_no] [] w Q ↔ Q (some (.long (if 1 < euF k x y then euF k x y else 1))) w) := by
  intro k
  induction k with
  | zero =>
    intro i x y v9 hi
    have hc : (100 : Int32) ≤ nI i := by rw [show i = 100 by omega]; decide
    simp only [q91_15, q91_17, q91_19, q91_50, q91_52, q91_53, q91_56, gF0, gF1, gF2, gF3, gF4, gF5, gF6, gF7, gF8, gF9, gF10, gF11, gF12, gF13, gF14, gF15, gF16, gF17, gF18, gF19, pF0, pF1, pF2, pF3, pF4, pF5, pF6, pF7, pF8, pF9, pF10, pF11, pF12, pF13, pF14, pF15, pF16, pF17, pF18, pF19, aI_mk, aL_mk, aA_mk, sI_mk, sL_mk, sA_mk, isO_mk, rl_some, rl_none, true_and, and_true, true_or, or_true, wr_1, if_pos hc]
    rfl
  | succ k ih =>
    intro i x y v9 hi
    have hc : ¬ (100 : Int32) ≤ nI i := by rw [show (100 : Int32) = nI 100 from rfl, nI_le' (by omega) (by omega)]; omega
    simp only [q91_15]
    simp only [q91_17, q91_19, q91_22, q91_24, q91_25, q91_26, q91_29, q91_31, q91_33, q91_34, q91_36, q91_38, q91_40, q91_42, q91_44, q91_47, q91_50, q91_52, q91_53, q91_56, gF0, gF1, gF2, gF3, gF4, gF5, gF6, gF7, gF8, gF9, gF10, gF11, gF12, gF13, gF14, gF15, gF16, gF17, gF18, gF19, pF0, pF1, pF2, pF3, pF4, pF5, pF6, pF7, pF8, pF9, pF10, pF11, pF12, pF13, pF14, pF15, pF16, pF17, pF18, pF19, aI_mk, aL_mk, aA_mk, sI_mk, sL_mk, sA_mk, isO_mk, rl_some, rl_none, true_and, and_true, true_or, or_true, wr_1, if_neg hc, nI_1, lg0]
    have e : euF (k + 1) x y = if y = 0 then x else euF k y (x - x / y * y) := rfl
    rw [e]
    by_cases h : y = 0
    · simp only [if_pos h]
    · simp only [if_neg h, h, not_false_eq_true, true_and]
      exact ih (i + 1) y (x - x / y * y) _ (by omega)
theorem c91 {f g : Int64} : Wp 91 b 0 [.long f, x_no, .long g, x_no, x_no, x_no, x_no, x_no, x_no, x_no, x_no] [] w Q ↔ Q (some (.long (if 1 < euF 100 (abL f) (abL g) then euF 100 (abL f) (abL g) else 1))) w := by
  have hab : ∀ x : Int64, (if 0 < x then x else -x) = abL x := fun _ => rfl
  simp only [q91_0, q91_1, q91_4, q91_6, q91_7, q91_10, q91_12, q91_13, gF0, gF1, gF2, gF3, gF4, gF5, gF6, gF7, gF8, gF9, gF10, gF11, gF12, gF13, gF14, gF15, gF16, gF17, gF18, gF19, pF0, pF1, pF2, pF3, pF4, pF5, pF6, pF7, pF8, pF9, pF10, pF11, pF12, pF13, pF14, pF15, pF16, pF17, pF18, pF19, aI_mk, aL_mk, aA_mk, sI_mk, sL_mk, sA_mk, isO_mk, rl_some, rl_none, true_and, and_true, true_or, or_true, wr_1, hab]
  exact l91 100 0 _ _ _ (by omega)
def cdF (f g : Int64) : Int64 := if 1 < euF 100 (abL f) (abL g) then euF 100 (abL f) (abL g) else 1
theorem cd0 (f g : Int64) : ¬ cdF f g = 0 := by
  unfold cdF
  by_cases h : 1 < euF 100 (abL f) (abL g)
  · rw [if_pos h]
    intro e
    rw [e] at h
    exact absurd h (by decide)
  · rw [if_neg h]
    decide
theorem c90 {x d : Int64} {t : Int32} : Wp 90 b 0 [.long x, x_no, .long d, x_no, .int t, x_no, x_no] [] w Q ↔ Q (some (.long (if t = 0 then x / cdF d x else d / cdF d x))) w := by
  have hcd : ∀ f g : Int64, (if 1 < euF 100 (abL f) (abL g) then euF 100 (abL f) (abL g) else 1) = cdF f g := fun _ _ => rfl
  simp only [q90_0, q90_1, q90_2, q90_5, q90_7, q90_9, q90_12, q90_13, q90_15, q90_16, q90_19, q90_20, q90_22, q90_23, gF0, gF1, gF2, gF3, gF4, gF5, gF6, gF7, gF8, gF9, gF10, gF11, gF12, gF13, gF14, gF15, gF16, gF17, gF18, gF19, pF0, pF1, pF2, pF3, pF4, pF5, pF6, pF7, pF8, pF9, pF10, pF11, pF12, pF13, pF14, pF15, pF16, pF17, pF18, pF19, aI_mk, aL_mk, aA_mk, sI_mk, sL_mk, sA_mk, isO_mk, rl_some, rl_none, true_and, and_true, true_or, or_true, wr_1, c91, hcd, cd0, not_false_eq_true]
  by_cases h : t = 0
  · simp only [h, not_true, if_false, if_true]
  · simp only [h, not_false_eq_true, if_true, if_false]
end FR
