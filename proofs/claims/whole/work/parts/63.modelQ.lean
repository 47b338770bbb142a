/-- a row's masses, none if it has no readings -/
def pnN (d : Nat → Int32) (j : Nat) : Int32 := if tD d j = 0 then 0 else lD d j ||| rD d j
/-- one row in a step of the chains -/
def chR (d : Nat → Int32) (s : Nat) (f : Nat → Int32) (j : Nat) : Nat → Int32 := fun z => if anyN (tcN (pnN d j) s f) 5 0 = true ∧ z < 5 ∧ pnN d j >>> (nI z &&& 31) &&& 1 = 1 ∧ f z = -1 then nI (s + 1) else f z
section MRQ
variable {b : Nat} {m : xM} {n : Nat} {Q : Option Value → xW → Prop}
theorem l137r (v : vM m.df n) {s : Nat} (hs : s ≤ 1000) : ∀ (k j : Nat) (w : xW) (f : Nat → Int32) (x3 x4 x5 : Value), j + k = n → isM w (m.s_fa f) → (∀ w2 f2 x3 x4 x5, fr w w2 51 60 → isM w2 (m.s_fa f2) → (∀ z, f2 z = foldN (chR m.df s) k j f z) → Wp 137 b 200 [.ref 51, .int (nI s), .int (nI n), x3, x4, x5] [] w2 Q) → Wp 137 b 37 [.ref 51, .int (nI s), .int (nI j), x3, x4, x5] [] w Q := by
  have hn := v.2.1
  have v0 := v.1
  intro k
  induction k with
  | zero =>
    intro j w f x3 x4 x5 hj D K
    have hc : nI n ≤ nI j := nI_le (by omega) (by omega)
    obtain ⟨h0, h1, h8⟩ := D.fa0
    have e : j = n := by omega
    subst e
    simp only [q137_37, q137_38, q137_39, q137_42, q137_43, q137_44, gF0, gF1, gF2, gF3, gF4, gF5, gF6, gF7, gF8, gF9, gF10, gF11, gF12, gF13, gF14, gF15, gF16, gF17, gF18, gF19, pF0, pF1, pF2, pF3, pF4, pF5, pF6, pF7, pF8, pF9, pF10, pF11, pF12, pF13, pF14, pF15, pF16, pF17, pF18, pF19, aI_mk, aL_mk, aA_mk, sI_mk, sL_mk, sA_mk, isO_mk, rl_some, rl_none, true_and, and_true, true_or, or_true, wr_1, h0, oM, h1, p112, Int32.reduceToNatClampNeg, v0, if_pos hc]
    exact K w f x3 x4 x5 fr.rf D (fun z => rfl)
  | succ k ih =>
    intro j w f x3 x4 x5 hj D K
    have hc : ¬ nI n ≤ nI j := by rw [nI_le' (by omega) (by omega)]; omega
    obtain ⟨h0, h1, h8⟩ := D.fa0
    have j12 : j < 12 := by omega
    have G : Wp 137 b 81 [.ref 51, .int (nI s), .int (nI j), x3, x4, x5] [.int (pnN m.df j)] w Q := by
      have T := l137t (b := b) (x := pnN m.df j) (j := j) (Q := Q) D hs 5 0 false (by omega)
      rw [bI_f (by decide), Bool.false_or] at T
      have T2 := T.mpr (by
        by_cases c : anyN (tcN (pnN m.df j) s f) 5 0 = true
        · rw [bI_t c]
          simp only [q137_133, q137_134]
          refine l137s 5 0 w f (by omega) D (fun w2 f2 e2 D2 E => ?_)
          simp only [q137_194, q137_197, nI_1]
          refine ih (j + 1) w2 f2 _ _ _ (by omega) D2 (fun w3 f3 y3 y4 y5 e3 D3 E3 => K w3 f3 y3 y4 y5 (e2.tr e3) D3 (fun z => ?_))
          have ef : f2 = chR m.df s f j := funext fun z => by
            rw [E z]
            unfold chR
            by_cases d : (0 ≤ z ∧ z < 5) ∧ pnN m.df j >>> (nI z &&& 31) &&& 1 = 1 ∧ f z = -1
            · rw [if_pos d, if_pos ⟨c, d.1.2, d.2⟩]
            · rw [if_neg d, if_neg (fun q => d ⟨⟨Nat.zero_le _, q.2.1⟩, q.2.2⟩)]
          rw [E3 z, ef]
          rfl
        · rw [bI_f c]
          have h5 : ¬ (5 : Int32) ≤ 0 := by decide
          simp only [q137_133, q137_134, q137_136, q137_138, q137_139, q137_142, q137_144, q137_194, q137_197, gF0, gF1, gF2, gF3, gF4, gF5, gF6, gF7, gF8, gF9, gF10, gF11, gF12, gF13, gF14, gF15, gF16, gF17, gF18, gF19, pF0, pF1, pF2, pF3, pF4, pF5, pF6, pF7, pF8, pF9, pF10, pF11, pF12, pF13, pF14, pF15, pF16, pF17, pF18, pF19, aI_mk, aL_mk, aA_mk, sI_mk, sL_mk, sA_mk, isO_mk, rl_some, rl_none, true_and, and_true, true_or, or_true, wr_1, if_neg h5, if_true, nI_1]
          refine ih (j + 1) w f _ _ _ (by omega) D (fun w3 f3 y3 y4 y5 e3 D3 E3 => K w3 f3 y3 y4 y5 e3 D3 (fun z => ?_))
          have ef : f = chR m.df s f j := funext fun z => by
            unfold chR
            rw [if_neg (fun q => c q.1)]
          rw [E3 z]
          show foldN (chR m.df s) k (j + 1) f z = foldN (chR m.df s) k (j + 1) (chR m.df s f j) z
          rw [← ef])
      simp only [q137_81, q137_82, q137_83, q137_85, q137_86]
      exact T2
    rw [q137_37]
    by_cases c : m.df (28 + j) = 0
    · have ep : pnN m.df j = 0 := if_pos c
      rw [ep] at G
      simp only [q137_38, q137_39, q137_42, q137_43, q137_44, q137_47, q137_48, q137_51, q137_53, q137_54, q137_55, q137_56, q137_59, q137_60, gF0, gF1, gF2, gF3, gF4, gF5, gF6, gF7, gF8, gF9, gF10, gF11, gF12, gF13, gF14, gF15, gF16, gF17, gF18, gF19, pF0, pF1, pF2, pF3, pF4, pF5, pF6, pF7, pF8, pF9, pF10, pF11, pF12, pF13, pF14, pF15, pF16, pF17, pF18, pF19, aI_mk, aL_mk, aA_mk, sI_mk, sL_mk, sA_mk, isO_mk, rl_some, rl_none, true_and, and_true, true_or, or_true, wr_1, h0, oM, h1, p112, Int32.reduceToNatClampNeg, v0, if_neg hc, ix28 j12, c, not_true, if_false]
      exact G
    · have ep : pnN m.df j = m.df (4 + j) ||| m.df (16 + j) := if_neg c
      rw [ep] at G
      simp only [q137_38, q137_39, q137_42, q137_43, q137_44, q137_47, q137_48, q137_51, q137_53, q137_54, q137_55, q137_56, q137_59, q137_60, q137_63, q137_64, q137_67, q137_68, q137_69, q137_70, q137_71, q137_72, q137_75, q137_77, q137_78, q137_79, q137_80, gF0, gF1, gF2, gF3, gF4, gF5, gF6, gF7, gF8, gF9, gF10, gF11, gF12, gF13, gF14, gF15, gF16, gF17, gF18, gF19, pF0, pF1, pF2, pF3, pF4, pF5, pF6, pF7, pF8, pF9, pF10, pF11, pF12, pF13, pF14, pF15, pF16, pF17, pF18, pF19, aI_mk, aL_mk, aA_mk, sI_mk, sL_mk, sA_mk, isO_mk, rl_some, rl_none, true_and, and_true, true_or, or_true, wr_1, h0, oM, h1, p112, Int32.reduceToNatClampNeg, v0, if_neg hc, ix28 j12, ix4 j12, ix16 j12, c, not_false_eq_true, if_true]
      exact G
end MRQ
