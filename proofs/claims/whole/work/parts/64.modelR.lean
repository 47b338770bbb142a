/-- where the chains begin: the standard is reached, nothing else -/
def ch0 : Nat → Int32 := fun z => if z = 0 then 0 else -1
/-- k steps of the chains, from step s on -/
def chS (d : Nat → Int32) (n : Nat) : Nat → Nat → (Nat → Int32) → (Nat → Int32)
  | 0, _, f => f
  | k + 1, s, f => chS d n k (s + 1) (foldN (chR d s) n 0 f)
section MRR
variable {b : Nat} {m : xM} {n : Nat} {Q : Option Value → xW → Prop}
theorem l137b (v : vM m.df n) : ∀ (k s : Nat) (w : xW) (f : Nat → Int32) (x2 x3 x4 x5 : Value), s + k = 4 → isM w (m.s_fa f) → (∀ w2, fr w w2 51 60 → isM w2 (m.s_fa (chS m.df n k s f)) → Q none w2) → Wp 137 b 30 [.ref 51, .int (nI s), x2, x3, x4, x5] [] w Q := by
  intro k
  induction k with
  | zero =>
    intro s w f x2 x3 x4 x5 hs D K
    have hc : (4 : Int32) ≤ nI s := by rw [show s = 4 by omega]; decide
    simp only [q137_30, q137_31, q137_32, q137_206, gF0, gF1, gF2, gF3, gF4, gF5, gF6, gF7, gF8, gF9, gF10, gF11, gF12, gF13, gF14, gF15, gF16, gF17, gF18, gF19, pF0, pF1, pF2, pF3, pF4, pF5, pF6, pF7, pF8, pF9, pF10, pF11, pF12, pF13, pF14, pF15, pF16, pF17, pF18, pF19, aI_mk, aL_mk, aA_mk, sI_mk, sL_mk, sA_mk, isO_mk, rl_some, rl_none, true_and, and_true, true_or, or_true, wr_1, if_pos hc]
    exact K w fr.rf D
  | succ k ih =>
    intro s w f x2 x3 x4 x5 hs D K
    have hc : ¬ (4 : Int32) ≤ nI s := by rw [show (4 : Int32) = nI 4 from rfl, nI_le' (by omega) (by omega)]; omega
    rw [q137_30]
    simp only [q137_31, q137_32, q137_35, q137_36, gF0, gF1, gF2, gF3, gF4, gF5, gF6, gF7, gF8, gF9, gF10, gF11, gF12, gF13, gF14, gF15, gF16, gF17, gF18, gF19, pF0, pF1, pF2, pF3, pF4, pF5, pF6, pF7, pF8, pF9, pF10, pF11, pF12, pF13, pF14, pF15, pF16, pF17, pF18, pF19, aI_mk, aL_mk, aA_mk, sI_mk, sL_mk, sA_mk, isO_mk, rl_some, rl_none, true_and, and_true, true_or, or_true, wr_1, if_neg hc]
    refine l137r v (by omega) n 0 w f x3 x4 x5 (by omega) D (fun w2 f2 y3 y4 y5 e2 D2 E => ?_)
    have ef : f2 = foldN (chR m.df s) n 0 f := funext E
    rw [ef] at D2
    simp only [q137_200, q137_203, nI_1]
    exact ih (s + 1) w2 _ _ _ _ _ (by omega) D2 (fun w3 e3 => K w3 (e2.tr e3))
end MRR
