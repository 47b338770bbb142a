section MRF
variable {b : Nat} {m : xM} {n U len : Nat} {Q : Option Value → xW → Prop} {le ri re rs : Int32}
theorem e192 {w : xW} {p : Nat} {neg : Bool} {x1 x3 : Int32} (D : isM w (m.s_T (nI p) le ri re rs)) (K : ∀ w2 re2, fr w w2 51 60 → isM w2 (m.s_T (nI p) le ri re2 rs) → Q (some (.int 0)) w2) : Wp 147 b 192 [.ref 51, .int x1, .int (bI (neg = true)), .int x3] [] w Q := by
  obtain ⟨h0, h4, -⟩ := D.T0
  have z1 : ¬ (1 : Int32) = 0 := by decide
  cases neg with
  | false =>
    have := K _ re (fr.wr (by omega) (by omega)) (D.T1 (nI p) le ri re rs)
    rw [bI_f (by decide)]
    simp only [q147_192, q147_193, q147_194, q147_195, q147_196, q147_199, q147_200, q147_203, q147_204, q147_207, q147_208, q147_211, q147_214, q147_215, gF0, gF1, gF2, gF3, gF4, gF5, gF6, gF7, gF8, gF9, gF10, gF11, gF12, gF13, gF14, gF15, gF16, gF17, gF18, gF19, pF0, pF1, pF2, pF3, pF4, pF5, pF6, pF7, pF8, pF9, pF10, pF11, pF12, pF13, pF14, pF15, pF16, pF17, pF18, pF19, aI_mk, aL_mk, aA_mk, sI_mk, sL_mk, sA_mk, isO_mk, rl_some, rl_none, true_and, and_true, true_or, or_true, wr_1, h0, if_true, z_01]
    exact this
  | true =>
    have := K _ (-re) (fr.wr (by omega) (by omega)) (D.T1 (nI p) le ri (-re) rs)
    rw [bI_t rfl]
    simp only [q147_192, q147_193, q147_194, q147_195, q147_196, q147_199, q147_200, q147_203, q147_204, q147_207, q147_208, q147_211, q147_214, q147_215, gF0, gF1, gF2, gF3, gF4, gF5, gF6, gF7, gF8, gF9, gF10, gF11, gF12, gF13, gF14, gF15, gF16, gF17, gF18, gF19, pF0, pF1, pF2, pF3, pF4, pF5, pF6, pF7, pF8, pF9, pF10, pF11, pF12, pF13, pF14, pF15, pF16, pF17, pF18, pF19, aI_mk, aL_mk, aA_mk, sI_mk, sL_mk, sA_mk, isO_mk, rl_some, rl_none, true_and, and_true, true_or, or_true, wr_1, h0, z1, if_false, z_01]
    exact this
theorem e75 {w : xW} {p : Nat} {neg : Bool} (D : isM w (m.s_T (nI p) le ri re rs)) (hl : m.ty = len) (h80 : len ≤ 80) (hp : p ≤ 80) (K0 : ∀ w2 p2 re2, ¬ (p < (dgF m.cf len 6 p 0).1 ∧ chF m.cf len (dgF m.cf len 6 p 0).1 = 59) → fr w w2 51 60 → p2 ≤ 80 → isM w2 (m.s_T (nI p2) le ri re2 rs) → Q (some (.int 0)) w2) (K1 : ∀ w2, p < (dgF m.cf len 6 p 0).1 → chF m.cf len (dgF m.cf len 6 p 0).1 = 59 → fr w w2 51 60 → (dgF m.cf len 6 p 0).1 + 1 ≤ 80 → isM w2 (m.s_T (nI ((dgF m.cf len 6 p 0).1 + 1)) le ri (if neg = true then -(dgF m.cf len 6 p 0).2 else (dgF m.cf len 6 p 0).2) rs) → Q (some (.int 1)) w2) : Wp 147 b 75 [.ref 51, .int 1, .int (bI (neg = true)), x_no] [] w Q := by
  obtain ⟨h0, h4, -⟩ := D.T0
  have z1 : ¬ (1 : Int32) = 0 := by decide
  obtain ⟨g1, -, g3⟩ := dgF_le m.cf len 6 p 0
  have g3 := g3 hp h80
  have D1 := D.T1 (nI p) le ri 0 rs
  by_cases hp6 : p + 6 ≤ 86
  · simp only [q147_75, q147_76, q147_79, q147_80, q147_81, q147_82, gF0, gF1, gF2, gF3, gF4, gF5, gF6, gF7, gF8, gF9, gF10, gF11, gF12, gF13, gF14, gF15, gF16, gF17, gF18, gF19, pF0, pF1, pF2, pF3, pF4, pF5, pF6, pF7, pF8, pF9, pF10, pF11, pF12, pF13, pF14, pF15, pF16, pF17, pF18, pF19, aI_mk, aL_mk, aA_mk, sI_mk, sL_mk, sA_mk, isO_mk, rl_some, rl_none, true_and, and_true, true_or, or_true, wr_1, h0]
    have f1 : fr w (wr w 51 (.inr (6, [.ref 52, .ref 53, .int (nI m.st), .ref 54, .ref 55, .int (nI m.ty), .int (nI p), .int le, .int ri, .int 0, .int rs, .ref 56, .int m.wr, .int m.wd, .ref 57, .ref 58, .long m.be, .ref 59, .long m.up, .long m.dn]))) 51 60 := fr.wr (by omega) (by omega)
    generalize wr w 51 (.inr (6, [.ref 52, .ref 53, .int (nI m.st), .ref 54, .ref 55, .int (nI m.ty), .int (nI p), .int le, .int ri, .int 0, .int rs, .ref 56, .int m.wr, .int m.wd, .ref 57, .ref 58, .long m.be, .ref 59, .long m.up, .long m.dn])) = w1 at D1 f1 ⊢
    have tl : ∀ (w2 : xW), fr w1 w2 51 60 → isM w2 (m.s_T (nI (dgF m.cf len 6 p 0).1) le ri (dgF m.cf len 6 p 0).2 rs) → Wp 147 b 167 [.ref 51, .int 1, .int (bI (neg = true)), .int (nI p)] [] w2 Q := by
      intro w2 f2 D2
      obtain ⟨h2, -, -⟩ := D2.T0
      by_cases c : p < (dgF m.cf len 6 p 0).1
      · have hc : ¬ nI (dgF m.cf len 6 p 0).1 ≤ nI p := by rw [nI_le' (by omega) (by omega)]; omega
        simp only [q147_167, q147_168, q147_171, q147_172, q147_175, q147_176, q147_179, q147_180, q147_182, gF0, gF1, gF2, gF3, gF4, gF5, gF6, gF7, gF8, gF9, gF10, gF11, gF12, gF13, gF14, gF15, gF16, gF17, gF18, gF19, pF0, pF1, pF2, pF3, pF4, pF5, pF6, pF7, pF8, pF9, pF10, pF11, pF12, pF13, pF14, pF15, pF16, pF17, pF18, pF19, aI_mk, aL_mk, aA_mk, sI_mk, sL_mk, sA_mk, isO_mk, rl_some, rl_none, true_and, and_true, true_or, or_true, wr_1, z1, if_false, h2, if_neg hc]
        refine e145 D2 hl h80 g3 (by decide) (fun w3 e3 f3 D3 => ?_) (fun w3 e3 h3 f3 D3 => ?_)
        · simp only [q147_185, gF0, gF1, gF2, gF3, gF4, gF5, gF6, gF7, gF8, gF9, gF10, gF11, gF12, gF13, gF14, gF15, gF16, gF17, gF18, gF19, pF0, pF1, pF2, pF3, pF4, pF5, pF6, pF7, pF8, pF9, pF10, pF11, pF12, pF13, pF14, pF15, pF16, pF17, pF18, pF19, aI_mk, aL_mk, aA_mk, sI_mk, sL_mk, sA_mk, isO_mk, rl_some, rl_none, true_and, and_true, true_or, or_true, wr_1, if_true]
          exact e192 D3 (fun w4 re2 f4 D4 => K0 w4 _ re2 (fun q => e3 q.2) ((f1.tr f2).tr (f3.tr f4)) g3 D4)
        · obtain ⟨h5, -, -⟩ := D3.T0
          simp only [q147_185, q147_188, q147_189, q147_193, gF0, gF1, gF2, gF3, gF4, gF5, gF6, gF7, gF8, gF9, gF10, gF11, gF12, gF13, gF14, gF15, gF16, gF17, gF18, gF19, pF0, pF1, pF2, pF3, pF4, pF5, pF6, pF7, pF8, pF9, pF10, pF11, pF12, pF13, pF14, pF15, pF16, pF17, pF18, pF19, aI_mk, aL_mk, aA_mk, sI_mk, sL_mk, sA_mk, isO_mk, rl_some, rl_none, true_and, and_true, true_or, or_true, wr_1, z1, if_false]
          cases neg with
          | false =>
            have := K1 _ c e3 ((f1.tr f2).tr (f3.tr (fr.wr (by omega) (by omega)))) (by omega) (D3.T1 (nI ((dgF m.cf len 6 p 0).1 + 1)) le ri (dgF m.cf len 6 p 0).2 rs)
            rw [bI_f (by decide)]
            simp only [q147_194, q147_195, q147_196, q147_199, q147_200, q147_203, q147_204, q147_207, q147_208, q147_211, q147_214, q147_215, gF0, gF1, gF2, gF3, gF4, gF5, gF6, gF7, gF8, gF9, gF10, gF11, gF12, gF13, gF14, gF15, gF16, gF17, gF18, gF19, pF0, pF1, pF2, pF3, pF4, pF5, pF6, pF7, pF8, pF9, pF10, pF11, pF12, pF13, pF14, pF15, pF16, pF17, pF18, pF19, aI_mk, aL_mk, aA_mk, sI_mk, sL_mk, sA_mk, isO_mk, rl_some, rl_none, true_and, and_true, true_or, or_true, wr_1, h5, if_true, o_01]
            exact this
          | true =>
            have := K1 _ c e3 ((f1.tr f2).tr (f3.tr (fr.wr (by omega) (by omega)))) (by omega) (D3.T1 (nI ((dgF m.cf len 6 p 0).1 + 1)) le ri (-(dgF m.cf len 6 p 0).2) rs)
            rw [bI_t rfl]
            simp only [q147_194, q147_195, q147_196, q147_199, q147_200, q147_203, q147_204, q147_207, q147_208, q147_211, q147_214, q147_215, gF0, gF1, gF2, gF3, gF4, gF5, gF6, gF7, gF8, gF9, gF10, gF11, gF12, gF13, gF14, gF15, gF16, gF17, gF18, gF19, pF0, pF1, pF2, pF3, pF4, pF5, pF6, pF7, pF8, pF9, pF10, pF11, pF12, pF13, pF14, pF15, pF16, pF17, pF18, pF19, aI_mk, aL_mk, aA_mk, sI_mk, sL_mk, sA_mk, isO_mk, rl_some, rl_none, true_and, and_true, true_or, or_true, wr_1, h5, z1, if_false, o_01]
            exact this
      · have hc : nI (dgF m.cf len 6 p 0).1 ≤ nI p := nI_le (by omega) (by omega)
        simp only [q147_167, q147_168, q147_171, q147_172, q147_175, q147_176, gF0, gF1, gF2, gF3, gF4, gF5, gF6, gF7, gF8, gF9, gF10, gF11, gF12, gF13, gF14, gF15, gF16, gF17, gF18, gF19, pF0, pF1, pF2, pF3, pF4, pF5, pF6, pF7, pF8, pF9, pF10, pF11, pF12, pF13, pF14, pF15, pF16, pF17, pF18, pF19, aI_mk, aL_mk, aA_mk, sI_mk, sL_mk, sA_mk, isO_mk, rl_some, rl_none, true_and, and_true, true_or, or_true, wr_1, z1, if_false, h2, if_pos hc]
        exact e192 D2 (fun w4 re2 f4 D4 => K0 w4 _ re2 (fun q => c q.1) ((f1.tr f2).tr f4) g3 D4)
    exact l147 hl h80 6 0 0 w1 rfl (by omega) D1 tl
  · omega
end MRF
