/-! Solver -/
/-- the solver at v: U unknown numbers, the determinant, the equations, sums, minors, numerators -/
def isS (w : xW) (v : Nat) (u : Int32) (det : Int64) (N : Nat → Nat → Int64) (S M V : Nat → Int64) : Prop := rd w v = .inr (2, [.ref (v + 1), .ref (v + 7), .ref (v + 8), .ref (v + 9), .int u, .long det]) ∧ (∃ g : Nat → Option Nat, rd w (v + 1) = .inl (4, 5, .inr (.inr (.inr (.inr g)))) ∧ ∀ i, i < 5 → g i = some (v + 2 + i)) ∧ (∀ i, i < 5 → rd w (v + 2 + i) = .inl (1, 5, .inr (.inl (N i)))) ∧ rd w (v + 7) = .inl (1, 5, .inr (.inl S)) ∧ rd w (v + 8) = .inl (1, 32, .inr (.inl M)) ∧ rd w (v + 9) = .inl (1, 5, .inr (.inl V))
theorem isS.fr {w w' : xW} {v lo hi : Nat} {u : Int32} {det : Int64} {N : Nat → Nat → Int64} {S M V : Nat → Int64} (D : isS w v u det N S M V) (f : fr w w' lo hi) (ho : v + 10 ≤ lo ∨ hi ≤ v) : isS w' v u det N S M V := by
  obtain ⟨h0, ⟨g, h1, h2⟩, h3, h4, h5, h6⟩ := D
  exact ⟨(f.2.2 _ (by omega)).trans h0, ⟨g, (f.2.2 _ (by omega)).trans h1, h2⟩, fun i hi => (f.2.2 _ (by omega)).trans (h3 i hi), (f.2.2 _ (by omega)).trans h4, (f.2.2 _ (by omega)).trans h5, (f.2.2 _ (by omega)).trans h6⟩
theorem isS.s0 {w : xW} {v : Nat} {u u' : Int32} {det det' : Int64} {N : Nat → Nat → Int64} {S M V : Nat → Int64} (D : isS w v u det N S M V) : isS (wr w v (.inr (2, [.ref (v + 1), .ref (v + 7), .ref (v + 8), .ref (v + 9), .int u', .long det']))) v u' det' N S M V := by
  obtain ⟨h0, ⟨g, h1, h2⟩, h3, h4, h5, h6⟩ := D
  exact ⟨rd_s, ⟨g, (rd_n (by omega)).trans h1, h2⟩, fun i hi => (rd_n (by omega)).trans (h3 i hi), (rd_n (by omega)).trans h4, (rd_n (by omega)).trans h5, (rd_n (by omega)).trans h6⟩
theorem isS.sS {w : xW} {v : Nat} {u : Int32} {det : Int64} {N : Nat → Nat → Int64} {S M V g' : Nat → Int64} (D : isS w v u det N S M V) : isS (wr w (v + 7) (.inl (1, 5, .inr (.inl g')))) v u det N g' M V := by
  obtain ⟨h0, ⟨g, h1, h2⟩, h3, h4, h5, h6⟩ := D
  exact ⟨(rd_n (by omega)).trans h0, ⟨g, (rd_n (by omega)).trans h1, h2⟩, fun i hi => (rd_n (by omega)).trans (h3 i hi), rd_s, (rd_n (by omega)).trans h5, (rd_n (by omega)).trans h6⟩
theorem isS.sM {w : xW} {v : Nat} {u : Int32} {det : Int64} {N : Nat → Nat → Int64} {S M V g' : Nat → Int64} (D : isS w v u det N S M V) : isS (wr w (v + 8) (.inl (1, 32, .inr (.inl g')))) v u det N S g' V := by
  obtain ⟨h0, ⟨g, h1, h2⟩, h3, h4, h5, h6⟩ := D
  exact ⟨(rd_n (by omega)).trans h0, ⟨g, (rd_n (by omega)).trans h1, h2⟩, fun i hi => (rd_n (by omega)).trans (h3 i hi), (rd_n (by omega)).trans h4, rd_s, (rd_n (by omega)).trans h6⟩
theorem isS.sV {w : xW} {v : Nat} {u : Int32} {det : Int64} {N : Nat → Nat → Int64} {S M V g' : Nat → Int64} (D : isS w v u det N S M V) : isS (wr w (v + 9) (.inl (1, 5, .inr (.inl g')))) v u det N S M g' := by
  obtain ⟨h0, ⟨g, h1, h2⟩, h3, h4, h5, h6⟩ := D
  exact ⟨(rd_n (by omega)).trans h0, ⟨g, (rd_n (by omega)).trans h1, h2⟩, fun i hi => (rd_n (by omega)).trans (h3 i hi), (rd_n (by omega)).trans h4, (rd_n (by omega)).trans h5, rd_s⟩
/-- one place of a grid is written -/
def upG (N : Nat → Nat → Int64) (i j : Nat) (x : Int64) : Nat → Nat → Int64 := fun a c => if a = i ∧ c = j then x else N a c
theorem isS.sN {w : xW} {v i j : Nat} {u : Int32} {det x : Int64} {N : Nat → Nat → Int64} {S M V : Nat → Int64} (D : isS w v u det N S M V) (hi : i < 5) : isS (wr w (v + 2 + i) (.inl (1, 5, .inr (.inl (vp_updL (N i) j x))))) v u det (upG N i j x) S M V := by
  obtain ⟨h0, ⟨g, h1, h2⟩, h3, h4, h5, h6⟩ := D
  refine ⟨(rd_n (by omega)).trans h0, ⟨g, (rd_n (by omega)).trans h1, h2⟩, fun k hk => ?_, (rd_n (by omega)).trans h4, (rd_n (by omega)).trans h5, (rd_n (by omega)).trans h6⟩
  by_cases e : k = i
  · subst e
    rw [rd_s]
    refine congrArg (fun z => (Sum.inl (1, 5, Sum.inr (Sum.inl z)) : xC)) (funext fun c => ?_)
    unfold vp_updL upG
    by_cases e2 : c = j
    · simp [e2]
    · simp [e2]
  · rw [rd_n (by omega), h3 k hk]
    refine congrArg (fun z => (Sum.inl (1, 5, Sum.inr (Sum.inl z)) : xC)) (funext fun c => ?_)
    unfold upG
    rw [if_neg (by omega)]
section SV
variable {w : xW} {b o v : Nat} {s p l u : Int32} {n U : Nat} {lf rf tf mf : Nat → Int32} {det : Int64} {N : Nat → Nat → Int64} {S M V : Nat → Int64} {Q : Option Value → xW → Prop}
/-- what a row's readings, as many as 'times', with this sum, add to the sums and to the equations -/
def wS (s : Int32) (lf rf : Nat → Int32) (r : Nat) (times sum : Int32) (i : Nat) : Int64 := (fcF lf rf r (nI i)).toInt64 * (sum.toInt64 - times.toInt64 * (sgF lf rf r 0).toInt64 * s.toInt64)
def wN (lf rf : Nat → Int32) (r : Nat) (times : Int32) (i j : Nat) : Int64 := (fcF lf rf r (nI i) * fcF lf rf r (nI j) * times).toInt64
/-- weigh, the inner loop: row i of the equations, from j on -/
theorem l40b (D : isD w o s p l n lf rf tf mf) {r i : Nat} {times sum : Int32} {known : Int64} (hr : r < 12) (hi : i < U) (hU : U ≤ 5) (hs : o + 5 ≤ v ∨ v + 10 ≤ o) : ∀ (k j : Nat) (w : xW) (N : Nat → Nat → Int64), j + k = U → isD w o s p l n lf rf tf mf → isS w v (nI U) det N S M V → (∀ w2 N2, fr w w2 v (v + 10) → isS w2 v (nI U) det N2 S M V → (∀ a c, N2 a c = if a = i ∧ j ≤ c ∧ c < U then N a c + wN lf rf r times i c else N a c) → Wp 40 b 108 [.ref v, .ref o, .int (nI r), .int times, .int sum, .long known, x_no, .int (nI i), .int (fcF lf rf r (nI i)), .int (nI U)] [] w2 Q) → Wp 40 b 67 [.ref v, .ref o, .int (nI r), .int times, .int sum, .long known, x_no, .int (nI i), .int (fcF lf rf r (nI i)), .int (nI j)] [] w Q := by
  clear D
  have hx : x_pl (nI i) 5 := x_pl_nI (by omega) (by omega)
  have hcl : (nI i).toNatClampNeg = i := cl_nI (by omega)
  intro k
  induction k with
  | zero =>
    intro j w N hj D H K
    have hc : nI U ≤ nI j := nI_le (by omega) (by omega)
    have H0 := H
    obtain ⟨h0, ⟨g, h1, h2⟩, h3, h4, h5, h6⟩ := H
    simp only [q40_67, q40_69, q40_70, q40_73, gF0, gF1, gF2, gF3, gF4, gF5, gF6, gF7, gF8, gF9, gF10, gF11, gF12, gF13, gF14, gF15, gF16, gF17, gF18, gF19, pF0, pF1, pF2, pF3, pF4, pF5, pF6, pF7, pF8, pF9, pF10, pF11, pF12, pF13, pF14, pF15, pF16, pF17, pF18, pF19, aI_mk, aL_mk, aA_mk, sI_mk, sL_mk, sA_mk, isO_mk, rl_some, rl_none, true_and, and_true, true_or, or_true, wr_1, h0, if_pos hc]
    have e : j = U := by omega
    subst e
    exact K w N fr.rf H0 (fun a c => by rw [if_neg (by omega)])
  | succ k ih =>
    intro j w N hj D H K
    have hc : ¬ nI U ≤ nI j := by rw [nI_le' (by omega) (by omega)]; omega
    have H0 := H
    have D0 := D
    obtain ⟨h0, ⟨g, h1, h2⟩, h3, h4, h5, h6⟩ := H
    obtain ⟨d0, -⟩ := D
    have hy : x_pl (nI j) 5 := x_pl_nI (by omega) (by omega)
    have hyl : (nI j).toNatClampNeg = j := cl_nI (by omega)
    simp only [q40_67]
    simp only [q40_69, q40_70, q40_73, q40_76, q40_77, q40_80, q40_82, q40_83, q40_85, q40_86, q40_87, q40_89, q40_90, q40_91, q40_93, q40_96, q40_97, q40_98, q40_99, q40_100, q40_101, q40_102, q40_105, gF0, gF1, gF2, gF3, gF4, gF5, gF6, gF7, gF8, gF9, gF10, gF11, gF12, gF13, gF14, gF15, gF16, gF17, gF18, gF19, pF0, pF1, pF2, pF3, pF4, pF5, pF6, pF7, pF8, pF9, pF10, pF11, pF12, pF13, pF14, pF15, pF16, pF17, pF18, pF19, aI_mk, aL_mk, aA_mk, sI_mk, sL_mk, sA_mk, isO_mk, rl_some, rl_none, true_and, and_true, true_or, or_true, wr_1, h0, d0, h1, if_neg hc, hx, hcl, h2 i (by omega), h3 i (by omega), hy, hyl, Option.some.injEq, exists_eq_left', c16 D0 hr, nI_1]
    have hf : fr w (wr w (v + 2 + i) (.inl (1, 5, .inr (.inl (vp_updL (N i) j (N i j + (fcF lf rf r (nI i) * fcF lf rf r (nI j) * times).toInt64)))))) v (v + 10) := fr.wr (by omega) (by omega)
    refine ih (j + 1) _ _ (by omega) (D0.fr hf (by omega)) (H0.sN (by omega)) (fun w2 N2 f2 S2 e2 => K w2 N2 (hf.tr f2) S2 (fun a c => ?_))
    rw [e2 a c]
    unfold upG
    by_cases c1 : a = i
    · by_cases c2 : c = j
      · rw [if_neg (by omega), if_pos ⟨c1, c2⟩, if_pos (by omega), c1, c2]
        rfl
      · by_cases c3 : j + 1 ≤ c ∧ c < U
        · rw [if_pos ⟨c1, c3⟩, if_neg (by omega), if_pos (by omega)]
        · rw [if_neg (by omega), if_neg (by omega), if_neg (by omega)]
    · rw [if_neg (by omega), if_neg (by omega), if_neg (by omega)]
theorem w0 {lf rf : Nat → Int32} {r : Nat} {times : Int32} {i j : Nat} (h : fcF lf rf r (nI i) = 0) : wN lf rf r times i j = 0 := by
  unfold wN
  rw [h, Int32.zero_mul, Int32.zero_mul]
  rfl
theorem w0S {s : Int32} {lf rf : Nat → Int32} {r : Nat} {times sum : Int32} {i : Nat} (h : fcF lf rf r (nI i) = 0) : wS s lf rf r times sum i = 0 := by
  unfold wS
  rw [h, show (0 : Int32).toInt64 = 0 from rfl, Int64.zero_mul]
theorem l40 {r : Nat} {times sum : Int32} {v8 v9 : Value} (hr : r < 12) (hU : U ≤ 5) (hs : o + 5 ≤ v ∨ v + 10 ≤ o) : ∀ (k i : Nat) (w : xW) (N : Nat → Nat → Int64) (S : Nat → Int64) (v8 v9 : Value), i + k = U → isD w o s p l n lf rf tf mf → isS w v (nI U) det N S M V → (∀ w2 N2 S2, fr w w2 v (v + 10) → isS w2 v (nI U) det N2 S2 M V → (∀ a c, N2 a c = if (i ≤ a ∧ a < U) ∧ c < U then N a c + wN lf rf r times a c else N a c) → (∀ a, S2 a = if i ≤ a ∧ a < U then S a + wS s lf rf r times sum a else S a) → Q none w2) → Wp 40 b 21 [.ref v, .ref o, .int (nI r), .int times, .int sum, .long (times.toInt64 * (sgF lf rf r 0).toInt64 * s.toInt64), x_no, .int (nI i), v8, v9] [] w Q := by
  intro k
  induction k with
  | zero =>
    intro i w N S v8 v9 hi D H K
    have hc : nI U ≤ nI i := nI_le (by omega) (by omega)
    have H0 := H
    obtain ⟨h0, ⟨g, h1, h2⟩, h3, h4, h5, h6⟩ := H
    simp only [q40_21, q40_23, q40_24, q40_27, q40_114, gF0, gF1, gF2, gF3, gF4, gF5, gF6, gF7, gF8, gF9, gF10, gF11, gF12, gF13, gF14, gF15, gF16, gF17, gF18, gF19, pF0, pF1, pF2, pF3, pF4, pF5, pF6, pF7, pF8, pF9, pF10, pF11, pF12, pF13, pF14, pF15, pF16, pF17, pF18, pF19, aI_mk, aL_mk, aA_mk, sI_mk, sL_mk, sA_mk, isO_mk, rl_some, rl_none, true_and, and_true, true_or, or_true, wr_1, h0, if_pos hc]
    exact K w N S fr.rf H0 (fun a c => by rw [if_neg (by omega)]) (fun a => by rw [if_neg (by omega)])
  | succ k ih =>
    intro i w N S v8 v9 hi D H K
    have hc : ¬ nI U ≤ nI i := by rw [nI_le' (by omega) (by omega)]; omega
    have H0 := H
    have D0 := D
    obtain ⟨h0, ⟨g, h1, h2⟩, h3, h4, h5, h6⟩ := H
    obtain ⟨d0, -⟩ := D
    have hx : x_pl (nI i) 5 := x_pl_nI (by omega) (by omega)
    have hcl : (nI i).toNatClampNeg = i := cl_nI (by omega)
    simp only [q40_21]
    simp only [q40_23, q40_24, q40_27, q40_30, q40_31, q40_32, q40_34, q40_37, q40_39, q40_41, gF0, gF1, gF2, gF3, gF4, gF5, gF6, gF7, gF8, gF9, gF10, gF11, gF12, gF13, gF14, gF15, gF16, gF17, gF18, gF19, pF0, pF1, pF2, pF3, pF4, pF5, pF6, pF7, pF8, pF9, pF10, pF11, pF12, pF13, pF14, pF15, pF16, pF17, pF18, pF19, aI_mk, aL_mk, aA_mk, sI_mk, sL_mk, sA_mk, isO_mk, rl_some, rl_none, true_and, and_true, true_or, or_true, wr_1, h0, d0, if_neg hc, c16 D0 hr]
    by_cases cf : fcF lf rf r (nI i) = 0
    · rw [if_pos cf]
      simp only [q40_108, q40_111, gF0, gF1, gF2, gF3, gF4, gF5, gF6, gF7, gF8, gF9, gF10, gF11, gF12, gF13, gF14, gF15, gF16, gF17, gF18, gF19, pF0, pF1, pF2, pF3, pF4, pF5, pF6, pF7, pF8, pF9, pF10, pF11, pF12, pF13, pF14, pF15, pF16, pF17, pF18, pF19, aI_mk, aL_mk, aA_mk, sI_mk, sL_mk, sA_mk, isO_mk, rl_some, rl_none, true_and, and_true, true_or, or_true, wr_1, nI_1]
      refine ih (i + 1) w N S _ _ (by omega) D0 H0 (fun w2 N2 S2 f2 H2 e2 e3 => K w2 N2 S2 f2 H2 (fun a c => ?_) (fun a => ?_))
      · rw [e2 a c]
        by_cases c1 : a = i
        · by_cases c2 : c < U
          · rw [if_neg (by omega), if_pos (by omega), c1, w0 cf, Int64.add_zero]
          · rw [if_neg (by omega), if_neg (by omega)]
        · by_cases c3 : (i + 1 ≤ a ∧ a < U) ∧ c < U
          · rw [if_pos c3, if_pos (by omega)]
          · rw [if_neg c3, if_neg (by omega)]
      · rw [e3 a]
        by_cases c1 : a = i
        · rw [if_neg (by omega), if_pos (by omega), c1, w0S cf, Int64.add_zero]
        · by_cases c3 : i + 1 ≤ a ∧ a < U
          · rw [if_pos c3, if_pos (by omega)]
          · rw [if_neg c3, if_neg (by omega)]
    · rw [if_neg cf]
      simp only [q40_44, q40_45, q40_48, q40_50, q40_51, q40_52, q40_54, q40_55, q40_57, q40_58, q40_60, q40_61, q40_62, q40_63, q40_64, q40_65, gF0, gF1, gF2, gF3, gF4, gF5, gF6, gF7, gF8, gF9, gF10, gF11, gF12, gF13, gF14, gF15, gF16, gF17, gF18, gF19, pF0, pF1, pF2, pF3, pF4, pF5, pF6, pF7, pF8, pF9, pF10, pF11, pF12, pF13, pF14, pF15, pF16, pF17, pF18, pF19, aI_mk, aL_mk, aA_mk, sI_mk, sL_mk, sA_mk, isO_mk, rl_some, rl_none, true_and, and_true, true_or, or_true, wr_1, h0, h4, hx, hcl]
      have hf : fr w (wr w (v + 7) (.inl (1, 5, .inr (.inl (vp_updL S i (S i + (fcF lf rf r (nI i)).toInt64 * (sum.toInt64 - times.toInt64 * (sgF lf rf r 0).toInt64 * s.toInt64))))))) v (v + 10) := fr.wr (by omega) (by omega)
      have D2 := D0.fr hf (by omega)
      refine l40b D2 hr (by omega) hU hs U 0 _ N (by omega) D2 H0.sS (fun w2 N2 f2 H2 e2 => ?_)
      simp only [q40_108, q40_111, gF0, gF1, gF2, gF3, gF4, gF5, gF6, gF7, gF8, gF9, gF10, gF11, gF12, gF13, gF14, gF15, gF16, gF17, gF18, gF19, pF0, pF1, pF2, pF3, pF4, pF5, pF6, pF7, pF8, pF9, pF10, pF11, pF12, pF13, pF14, pF15, pF16, pF17, pF18, pF19, aI_mk, aL_mk, aA_mk, sI_mk, sL_mk, sA_mk, isO_mk, rl_some, rl_none, true_and, and_true, true_or, or_true, wr_1, nI_1]
      refine ih (i + 1) w2 N2 _ _ _ (by omega) (D2.fr f2 (by omega)) H2 (fun w3 N3 S3 f3 H3 e3 e4 => K w3 N3 S3 ((hf.tr f2).tr f3) H3 (fun a c => ?_) (fun a => ?_))
      · rw [e3 a c, e2 a c]
        by_cases c1 : a = i
        · subst c1
          by_cases c2 : c < U
          · rw [if_neg (by omega), if_pos (by omega), if_pos (by omega)]
          · rw [if_neg (by omega), if_neg (by omega), if_neg (by omega)]
        · by_cases c3 : (i + 1 ≤ a ∧ a < U) ∧ c < U
          · rw [if_pos c3, if_neg (by omega), if_pos (by omega)]
          · rw [if_neg c3, if_neg (by omega), if_neg (by omega)]
      · rw [e4 a]
        by_cases c1 : a = i
        · subst c1
          rw [if_neg (by omega), pk_uLs, if_pos (by omega)]
          rfl
        · rw [pk_uLn c1]
          by_cases c3 : i + 1 ≤ a ∧ a < U
          · rw [if_pos c3, if_pos (by omega)]
          · rw [if_neg c3, if_neg (by omega)]
theorem c40 (D : isD w o s p l n lf rf tf mf) (H : isS w v (nI U) det N S M V) {r : Nat} {times sum : Int32} (hr : r < 12) (hU : U ≤ 5) (hs : o + 5 ≤ v ∨ v + 10 ≤ o) (K : ∀ w2 N2 S2, fr w w2 v (v + 10) → isS w2 v (nI U) det N2 S2 M V → (∀ a c, a < U → c < U → N2 a c = N a c + wN lf rf r times a c) → (∀ a, a < U → S2 a = S a + wS s lf rf r times sum a) → Q none w2) : Wp 40 b 0 [.ref v, .ref o, .int (nI r), .int times, .int sum, x_no, x_no, x_no, x_no, x_no] [] w Q := by
  have D0 := D
  obtain ⟨d0, -⟩ := D
  simp only [q40_0, q40_1, q40_2, q40_3, q40_4, q40_5, q40_8, q40_9, q40_10, q40_11, q40_14, q40_15, q40_16, q40_18, q40_19, gF0, gF1, gF2, gF3, gF4, gF5, gF6, gF7, gF8, gF9, gF10, gF11, gF12, gF13, gF14, gF15, gF16, gF17, gF18, gF19, pF0, pF1, pF2, pF3, pF4, pF5, pF6, pF7, pF8, pF9, pF10, pF11, pF12, pF13, pF14, pF15, pF16, pF17, pF18, pF19, aI_mk, aL_mk, aA_mk, sI_mk, sL_mk, sA_mk, isO_mk, rl_some, rl_none, true_and, and_true, true_or, or_true, wr_1, d0, c15 D0 hr]
  exact l40 (v8 := x_no) (v9 := x_no) hr hU hs U 0 w N S _ _ (by omega) D0 H (fun w2 N2 S2 f2 H2 e2 e3 => K w2 N2 S2 f2 H2 (fun a c ha hc => by rw [e2 a c, if_pos (by omega)]) (fun a ha => by rw [e3 a, if_pos (by omega)]))
end SV
