/-! The law's loop -/
theorem lg_same (x : Int64) : lg_cmp x x = 0 := by
  unfold lg_cmp
  rw [if_neg (Int64.lt_irrefl), if_pos rfl]
theorem x_24 (a : Int32) : (a.toInt < 0 ∨ 23 < a.toInt) ∨ ∃ i, i < 24 ∧ a = nI i := by
  by_cases h : a.toInt < 0 ∨ 23 < a.toInt
  · exact Or.inl h
  · rcases pk_ix a (n := 24) (by omega) with q | q | q
    · rw [Int32.lt_iff_toInt_lt, show (0 : Int32).toInt = 0 from rfl] at q
      omega
    · rw [Int32.le_iff_toInt_le, show (nI 24 : Int32).toInt = 24 from rfl] at q
      omega
    · exact Or.inr q
theorem REL.o0 {L : Nat} {sc : Nat → Int32} {w : xW} (R : REL L sc w) : x_isO (rd w 0) 5 := by
  obtain ⟨e, d, k, H, cf, len, m, n, U, R⟩ := R
  exact R.o0
section LW
variable {w : xW} {b L j : Nat} {sc : Nat → Int32} {Q : Option Value → xW → Prop}

theorem law_0 (R : REL L sc w) (hj : 5 * j + 5 ≤ L) (hL : L ≤ 2560) (K : ∀ w2, REL L sc w2 → Wp 155 b 823 [.ref x_scr, .ref 0, .ref 51, .int (nI (5 * j))] [] w2 Q) : Wp 155 b 144 [.ref x_scr, .ref 0, .ref 51, .int (nI (5 * j))] [] w Q := by
  have e1 : w.2.2.1 = L := by rw [R.1]
  have e2 : w.2.2.2 = sc := by rw [R.1]
  have a1 : nI (5 * j) + 1 = nI (5 * j + 1) := nI_add _ 1
  have a2 : nI (5 * j) + 2 = nI (5 * j + 2) := nI_add _ 2
  have a3 : nI (5 * j) + 3 = nI (5 * j + 3) := nI_add _ 3
  have a4 : nI (5 * j) + 4 = nI (5 * j + 4) := nI_add _ 4
  have n1 : ¬ nI (5 * j + 1) < 0 := nI_pos (by omega)
  have n2 : ¬ nI (5 * j + 2) < 0 := nI_pos (by omega)
  have n3 : ¬ nI (5 * j + 3) < 0 := nI_pos (by omega)
  have n4 : ¬ nI (5 * j + 4) < 0 := nI_pos (by omega)
  have m1 : (nI (5 * j + 1)).toNatClampNeg = 5 * j + 1 := nI_clamp (by omega)
  have m2 : (nI (5 * j + 2)).toNatClampNeg = 5 * j + 2 := nI_clamp (by omega)
  have m3 : (nI (5 * j + 3)).toNatClampNeg = 5 * j + 3 := nI_clamp (by omega)
  have m4 : (nI (5 * j + 4)).toNatClampNeg = 5 * j + 4 := nI_clamp (by omega)
  have l1 : 5 * j + 1 < L := by omega
  have l2 : 5 * j + 2 < L := by omega
  have l3 : 5 * j + 3 < L := by omega
  have l4 : 5 * j + 4 < L := by omega
  have o0 := R.o0
  simp only [q155_144, q155_145, q155_146, q155_147, q155_148, q155_149, q155_150, q155_151, q155_152, q155_153, q155_154, q155_155, x_in, e1, e2, a1, a2, a3, a4, n1, n2, n3, n4, m1, m2, m3, m4, l1, l2, l3, l4, o0, not_false_eq_true, true_and, and_true]
  refine (p58 R w.1).mono (fun o1 w1 h => ?_)
  obtain ⟨f1, i1, v, rfl, h2⟩ := h
  have g1 : w1.2.2.1 = L := by rw [f1]
  have g2 : w1.2.2.2 = sc := by rw [f1]
  simp only [q155_158, q155_159, q155_160, q155_161, q155_162, q155_163, q155_164, q155_165, q155_166, q155_167, q155_168, q155_169, rl_some, x_in, g1, g2, a1, a2, a3, a4, n1, n2, n3, n4, m1, m2, m3, m4, l1, l2, l3, l4, i1, not_false_eq_true, true_and, and_true]
  refine (h2 w1.1).mono (fun o2 w2 h => ?_)
  obtain ⟨rfl, R2⟩ := h
  simp only [q155_172, rl_some, if_true]
  exact K w2 R2

theorem law_1 (R : REL L sc w) (hj : 5 * j + 5 ≤ L) (hL : L ≤ 2560) (K : ∀ w2, REL L sc w2 → Wp 155 b 823 [.ref x_scr, .ref 0, .ref 51, .int (nI (5 * j))] [] w2 Q) : Wp 155 b 177 [.ref x_scr, .ref 0, .ref 51, .int (nI (5 * j))] [] w Q := by
  have e1 : w.2.2.1 = L := by rw [R.1]
  have e2 : w.2.2.2 = sc := by rw [R.1]
  have a1 : nI (5 * j) + 1 = nI (5 * j + 1) := nI_add _ 1
  have a2 : nI (5 * j) + 2 = nI (5 * j + 2) := nI_add _ 2
  have a3 : nI (5 * j) + 3 = nI (5 * j + 3) := nI_add _ 3
  have a4 : nI (5 * j) + 4 = nI (5 * j + 4) := nI_add _ 4
  have n1 : ¬ nI (5 * j + 1) < 0 := nI_pos (by omega)
  have n2 : ¬ nI (5 * j + 2) < 0 := nI_pos (by omega)
  have n3 : ¬ nI (5 * j + 3) < 0 := nI_pos (by omega)
  have n4 : ¬ nI (5 * j + 4) < 0 := nI_pos (by omega)
  have m1 : (nI (5 * j + 1)).toNatClampNeg = 5 * j + 1 := nI_clamp (by omega)
  have m2 : (nI (5 * j + 2)).toNatClampNeg = 5 * j + 2 := nI_clamp (by omega)
  have m3 : (nI (5 * j + 3)).toNatClampNeg = 5 * j + 3 := nI_clamp (by omega)
  have m4 : (nI (5 * j + 4)).toNatClampNeg = 5 * j + 4 := nI_clamp (by omega)
  have l1 : 5 * j + 1 < L := by omega
  have l2 : 5 * j + 2 < L := by omega
  have l3 : 5 * j + 3 < L := by omega
  have l4 : 5 * j + 4 < L := by omega
  have o0 := R.o0
  simp only [q155_177, q155_178, q155_179, q155_180, q155_181, q155_182, q155_183, q155_184, q155_185, q155_186, q155_187, q155_188, x_in, e1, e2, a1, a2, a3, a4, n1, n2, n3, n4, m1, m2, m3, m4, l1, l2, l3, l4, o0, not_false_eq_true, true_and, and_true]
  refine (p59 R w.1).mono (fun o1 w1 h => ?_)
  obtain ⟨f1, i1, v, rfl, h2⟩ := h
  have g1 : w1.2.2.1 = L := by rw [f1]
  have g2 : w1.2.2.2 = sc := by rw [f1]
  simp only [q155_191, q155_192, q155_193, q155_194, q155_195, q155_196, q155_197, q155_198, q155_199, q155_200, q155_201, q155_202, rl_some, x_in, g1, g2, a1, a2, a3, a4, n1, n2, n3, n4, m1, m2, m3, m4, l1, l2, l3, l4, i1, not_false_eq_true, true_and, and_true]
  refine (h2 w1.1).mono (fun o2 w2 h => ?_)
  obtain ⟨rfl, R2⟩ := h
  simp only [q155_205, rl_some, if_true]
  exact K w2 R2

theorem law_2 (R : REL L sc w) (hj : 5 * j + 5 ≤ L) (hL : L ≤ 2560) (K : ∀ w2, REL L sc w2 → Wp 155 b 823 [.ref x_scr, .ref 0, .ref 51, .int (nI (5 * j))] [] w2 Q) : Wp 155 b 210 [.ref x_scr, .ref 0, .ref 51, .int (nI (5 * j))] [] w Q := by
  have e1 : w.2.2.1 = L := by rw [R.1]
  have e2 : w.2.2.2 = sc := by rw [R.1]
  have a1 : nI (5 * j) + 1 = nI (5 * j + 1) := nI_add _ 1
  have a2 : nI (5 * j) + 2 = nI (5 * j + 2) := nI_add _ 2
  have a3 : nI (5 * j) + 3 = nI (5 * j + 3) := nI_add _ 3
  have a4 : nI (5 * j) + 4 = nI (5 * j + 4) := nI_add _ 4
  have n1 : ¬ nI (5 * j + 1) < 0 := nI_pos (by omega)
  have n2 : ¬ nI (5 * j + 2) < 0 := nI_pos (by omega)
  have n3 : ¬ nI (5 * j + 3) < 0 := nI_pos (by omega)
  have n4 : ¬ nI (5 * j + 4) < 0 := nI_pos (by omega)
  have m1 : (nI (5 * j + 1)).toNatClampNeg = 5 * j + 1 := nI_clamp (by omega)
  have m2 : (nI (5 * j + 2)).toNatClampNeg = 5 * j + 2 := nI_clamp (by omega)
  have m3 : (nI (5 * j + 3)).toNatClampNeg = 5 * j + 3 := nI_clamp (by omega)
  have m4 : (nI (5 * j + 4)).toNatClampNeg = 5 * j + 4 := nI_clamp (by omega)
  have l1 : 5 * j + 1 < L := by omega
  have l2 : 5 * j + 2 < L := by omega
  have l3 : 5 * j + 3 < L := by omega
  have l4 : 5 * j + 4 < L := by omega
  have o0 := R.o0
  simp only [q155_210, q155_211, q155_212, q155_213, q155_214, q155_215, q155_216, x_in, e1, e2, a1, a2, a3, a4, n1, n2, n3, n4, m1, m2, m3, m4, l1, l2, l3, l4, o0, not_false_eq_true, true_and, and_true]
  refine (p60 R w.1).mono (fun o1 w1 h => ?_)
  obtain ⟨f1, i1, v, rfl, h2⟩ := h
  have g1 : w1.2.2.1 = L := by rw [f1]
  have g2 : w1.2.2.2 = sc := by rw [f1]
  simp only [q155_219, q155_220, q155_221, q155_222, q155_223, q155_224, q155_225, rl_some, x_in, g1, g2, a1, a2, a3, a4, n1, n2, n3, n4, m1, m2, m3, m4, l1, l2, l3, l4, i1, not_false_eq_true, true_and, and_true]
  refine (h2 w1.1).mono (fun o2 w2 h => ?_)
  obtain ⟨rfl, R2⟩ := h
  simp only [q155_228, rl_some, if_true]
  exact K w2 R2

theorem law_3 (R : REL L sc w) (hj : 5 * j + 5 ≤ L) (hL : L ≤ 2560) (K : ∀ w2, REL L sc w2 → Wp 155 b 823 [.ref x_scr, .ref 0, .ref 51, .int (nI (5 * j))] [] w2 Q) : Wp 155 b 233 [.ref x_scr, .ref 0, .ref 51, .int (nI (5 * j))] [] w Q := by
  have e1 : w.2.2.1 = L := by rw [R.1]
  have e2 : w.2.2.2 = sc := by rw [R.1]
  have a1 : nI (5 * j) + 1 = nI (5 * j + 1) := nI_add _ 1
  have a2 : nI (5 * j) + 2 = nI (5 * j + 2) := nI_add _ 2
  have a3 : nI (5 * j) + 3 = nI (5 * j + 3) := nI_add _ 3
  have a4 : nI (5 * j) + 4 = nI (5 * j + 4) := nI_add _ 4
  have n1 : ¬ nI (5 * j + 1) < 0 := nI_pos (by omega)
  have n2 : ¬ nI (5 * j + 2) < 0 := nI_pos (by omega)
  have n3 : ¬ nI (5 * j + 3) < 0 := nI_pos (by omega)
  have n4 : ¬ nI (5 * j + 4) < 0 := nI_pos (by omega)
  have m1 : (nI (5 * j + 1)).toNatClampNeg = 5 * j + 1 := nI_clamp (by omega)
  have m2 : (nI (5 * j + 2)).toNatClampNeg = 5 * j + 2 := nI_clamp (by omega)
  have m3 : (nI (5 * j + 3)).toNatClampNeg = 5 * j + 3 := nI_clamp (by omega)
  have m4 : (nI (5 * j + 4)).toNatClampNeg = 5 * j + 4 := nI_clamp (by omega)
  have l1 : 5 * j + 1 < L := by omega
  have l2 : 5 * j + 2 < L := by omega
  have l3 : 5 * j + 3 < L := by omega
  have l4 : 5 * j + 4 < L := by omega
  have o0 := R.o0
  simp only [q155_233, q155_234, q155_235, q155_236, q155_237, q155_238, q155_239, q155_240, q155_241, q155_242, q155_243, q155_244, x_in, e1, e2, a1, a2, a3, a4, n1, n2, n3, n4, m1, m2, m3, m4, l1, l2, l3, l4, o0, not_false_eq_true, true_and, and_true]
  refine (p61 R w.1).mono (fun o1 w1 h => ?_)
  obtain ⟨f1, i1, v, rfl, h2⟩ := h
  have g1 : w1.2.2.1 = L := by rw [f1]
  have g2 : w1.2.2.2 = sc := by rw [f1]
  simp only [q155_247, q155_248, q155_249, q155_250, q155_251, q155_252, q155_253, q155_254, q155_255, q155_256, q155_257, q155_258, rl_some, x_in, g1, g2, a1, a2, a3, a4, n1, n2, n3, n4, m1, m2, m3, m4, l1, l2, l3, l4, i1, not_false_eq_true, true_and, and_true]
  refine (h2 w1.1).mono (fun o2 w2 h => ?_)
  obtain ⟨rfl, R2⟩ := h
  simp only [q155_261, rl_some, if_true]
  exact K w2 R2

theorem law_4 (R : REL L sc w) (hj : 5 * j + 5 ≤ L) (hL : L ≤ 2560) (K : ∀ w2, REL L sc w2 → Wp 155 b 823 [.ref x_scr, .ref 0, .ref 51, .int (nI (5 * j))] [] w2 Q) : Wp 155 b 266 [.ref x_scr, .ref 0, .ref 51, .int (nI (5 * j))] [] w Q := by
  have e1 : w.2.2.1 = L := by rw [R.1]
  have e2 : w.2.2.2 = sc := by rw [R.1]
  have a1 : nI (5 * j) + 1 = nI (5 * j + 1) := nI_add _ 1
  have a2 : nI (5 * j) + 2 = nI (5 * j + 2) := nI_add _ 2
  have a3 : nI (5 * j) + 3 = nI (5 * j + 3) := nI_add _ 3
  have a4 : nI (5 * j) + 4 = nI (5 * j + 4) := nI_add _ 4
  have n1 : ¬ nI (5 * j + 1) < 0 := nI_pos (by omega)
  have n2 : ¬ nI (5 * j + 2) < 0 := nI_pos (by omega)
  have n3 : ¬ nI (5 * j + 3) < 0 := nI_pos (by omega)
  have n4 : ¬ nI (5 * j + 4) < 0 := nI_pos (by omega)
  have m1 : (nI (5 * j + 1)).toNatClampNeg = 5 * j + 1 := nI_clamp (by omega)
  have m2 : (nI (5 * j + 2)).toNatClampNeg = 5 * j + 2 := nI_clamp (by omega)
  have m3 : (nI (5 * j + 3)).toNatClampNeg = 5 * j + 3 := nI_clamp (by omega)
  have m4 : (nI (5 * j + 4)).toNatClampNeg = 5 * j + 4 := nI_clamp (by omega)
  have l1 : 5 * j + 1 < L := by omega
  have l2 : 5 * j + 2 < L := by omega
  have l3 : 5 * j + 3 < L := by omega
  have l4 : 5 * j + 4 < L := by omega
  have o0 := R.o0
  simp only [q155_266, q155_267, q155_268, q155_269, q155_270, q155_271, q155_272, q155_273, q155_274, q155_275, q155_276, q155_277, x_in, e1, e2, a1, a2, a3, a4, n1, n2, n3, n4, m1, m2, m3, m4, l1, l2, l3, l4, o0, not_false_eq_true, true_and, and_true]
  refine (p62 R w.1).mono (fun o1 w1 h => ?_)
  obtain ⟨f1, i1, v, rfl, h2⟩ := h
  have g1 : w1.2.2.1 = L := by rw [f1]
  have g2 : w1.2.2.2 = sc := by rw [f1]
  simp only [q155_280, q155_281, q155_282, q155_283, q155_284, q155_285, q155_286, q155_287, q155_288, q155_289, q155_290, q155_291, rl_some, x_in, g1, g2, a1, a2, a3, a4, n1, n2, n3, n4, m1, m2, m3, m4, l1, l2, l3, l4, i1, not_false_eq_true, true_and, and_true]
  refine (h2 w1.1).mono (fun o2 w2 h => ?_)
  obtain ⟨rfl, R2⟩ := h
  simp only [q155_294, rl_some, if_true]
  exact K w2 R2

theorem law_5 (R : REL L sc w) (hj : 5 * j + 5 ≤ L) (hL : L ≤ 2560) (K : ∀ w2, REL L sc w2 → Wp 155 b 823 [.ref x_scr, .ref 0, .ref 51, .int (nI (5 * j))] [] w2 Q) : Wp 155 b 299 [.ref x_scr, .ref 0, .ref 51, .int (nI (5 * j))] [] w Q := by
  have e1 : w.2.2.1 = L := by rw [R.1]
  have e2 : w.2.2.2 = sc := by rw [R.1]
  have a1 : nI (5 * j) + 1 = nI (5 * j + 1) := nI_add _ 1
  have a2 : nI (5 * j) + 2 = nI (5 * j + 2) := nI_add _ 2
  have a3 : nI (5 * j) + 3 = nI (5 * j + 3) := nI_add _ 3
  have a4 : nI (5 * j) + 4 = nI (5 * j + 4) := nI_add _ 4
  have n1 : ¬ nI (5 * j + 1) < 0 := nI_pos (by omega)
  have n2 : ¬ nI (5 * j + 2) < 0 := nI_pos (by omega)
  have n3 : ¬ nI (5 * j + 3) < 0 := nI_pos (by omega)
  have n4 : ¬ nI (5 * j + 4) < 0 := nI_pos (by omega)
  have m1 : (nI (5 * j + 1)).toNatClampNeg = 5 * j + 1 := nI_clamp (by omega)
  have m2 : (nI (5 * j + 2)).toNatClampNeg = 5 * j + 2 := nI_clamp (by omega)
  have m3 : (nI (5 * j + 3)).toNatClampNeg = 5 * j + 3 := nI_clamp (by omega)
  have m4 : (nI (5 * j + 4)).toNatClampNeg = 5 * j + 4 := nI_clamp (by omega)
  have l1 : 5 * j + 1 < L := by omega
  have l2 : 5 * j + 2 < L := by omega
  have l3 : 5 * j + 3 < L := by omega
  have l4 : 5 * j + 4 < L := by omega
  have o0 := R.o0
  simp only [q155_299, q155_300, q155_301, q155_302, q155_303, q155_304, q155_305, q155_306, q155_307, q155_308, q155_309, q155_310, x_in, e1, e2, a1, a2, a3, a4, n1, n2, n3, n4, m1, m2, m3, m4, l1, l2, l3, l4, o0, not_false_eq_true, true_and, and_true]
  refine (p63 R w.1).mono (fun o1 w1 h => ?_)
  obtain ⟨f1, i1, v, rfl, h2⟩ := h
  have g1 : w1.2.2.1 = L := by rw [f1]
  have g2 : w1.2.2.2 = sc := by rw [f1]
  simp only [q155_313, q155_314, q155_315, q155_316, q155_317, q155_318, q155_319, q155_320, q155_321, q155_322, q155_323, q155_324, rl_some, x_in, g1, g2, a1, a2, a3, a4, n1, n2, n3, n4, m1, m2, m3, m4, l1, l2, l3, l4, i1, not_false_eq_true, true_and, and_true]
  refine (h2 w1.1).mono (fun o2 w2 h => ?_)
  obtain ⟨rfl, R2⟩ := h
  simp only [q155_327, rl_some, if_true]
  exact K w2 R2

theorem law_6 (R : REL L sc w) (hj : 5 * j + 5 ≤ L) (hL : L ≤ 2560) (K : ∀ w2, REL L sc w2 → Wp 155 b 823 [.ref x_scr, .ref 0, .ref 51, .int (nI (5 * j))] [] w2 Q) : Wp 155 b 332 [.ref x_scr, .ref 0, .ref 51, .int (nI (5 * j))] [] w Q := by
  have e1 : w.2.2.1 = L := by rw [R.1]
  have e2 : w.2.2.2 = sc := by rw [R.1]
  have a1 : nI (5 * j) + 1 = nI (5 * j + 1) := nI_add _ 1
  have a2 : nI (5 * j) + 2 = nI (5 * j + 2) := nI_add _ 2
  have a3 : nI (5 * j) + 3 = nI (5 * j + 3) := nI_add _ 3
  have a4 : nI (5 * j) + 4 = nI (5 * j + 4) := nI_add _ 4
  have n1 : ¬ nI (5 * j + 1) < 0 := nI_pos (by omega)
  have n2 : ¬ nI (5 * j + 2) < 0 := nI_pos (by omega)
  have n3 : ¬ nI (5 * j + 3) < 0 := nI_pos (by omega)
  have n4 : ¬ nI (5 * j + 4) < 0 := nI_pos (by omega)
  have m1 : (nI (5 * j + 1)).toNatClampNeg = 5 * j + 1 := nI_clamp (by omega)
  have m2 : (nI (5 * j + 2)).toNatClampNeg = 5 * j + 2 := nI_clamp (by omega)
  have m3 : (nI (5 * j + 3)).toNatClampNeg = 5 * j + 3 := nI_clamp (by omega)
  have m4 : (nI (5 * j + 4)).toNatClampNeg = 5 * j + 4 := nI_clamp (by omega)
  have l1 : 5 * j + 1 < L := by omega
  have l2 : 5 * j + 2 < L := by omega
  have l3 : 5 * j + 3 < L := by omega
  have l4 : 5 * j + 4 < L := by omega
  have o0 := R.o0
  simp only [q155_332, q155_333, q155_334, q155_335, q155_336, q155_337, q155_338, q155_339, q155_340, q155_341, q155_342, q155_343, x_in, e1, e2, a1, a2, a3, a4, n1, n2, n3, n4, m1, m2, m3, m4, l1, l2, l3, l4, o0, not_false_eq_true, true_and, and_true]
  refine (p64 R w.1).mono (fun o1 w1 h => ?_)
  obtain ⟨f1, i1, v, rfl, h2⟩ := h
  have g1 : w1.2.2.1 = L := by rw [f1]
  have g2 : w1.2.2.2 = sc := by rw [f1]
  simp only [q155_346, q155_347, q155_348, q155_349, q155_350, q155_351, q155_352, q155_353, q155_354, q155_355, q155_356, q155_357, rl_some, x_in, g1, g2, a1, a2, a3, a4, n1, n2, n3, n4, m1, m2, m3, m4, l1, l2, l3, l4, i1, not_false_eq_true, true_and, and_true]
  refine (h2 w1.1).mono (fun o2 w2 h => ?_)
  obtain ⟨rfl, R2⟩ := h
  simp only [q155_360, rl_some, if_true]
  exact K w2 R2

theorem law_7 (R : REL L sc w) (hj : 5 * j + 5 ≤ L) (hL : L ≤ 2560) (K : ∀ w2, REL L sc w2 → Wp 155 b 823 [.ref x_scr, .ref 0, .ref 51, .int (nI (5 * j))] [] w2 Q) : Wp 155 b 365 [.ref x_scr, .ref 0, .ref 51, .int (nI (5 * j))] [] w Q := by
  have e1 : w.2.2.1 = L := by rw [R.1]
  have e2 : w.2.2.2 = sc := by rw [R.1]
  have a1 : nI (5 * j) + 1 = nI (5 * j + 1) := nI_add _ 1
  have a2 : nI (5 * j) + 2 = nI (5 * j + 2) := nI_add _ 2
  have a3 : nI (5 * j) + 3 = nI (5 * j + 3) := nI_add _ 3
  have a4 : nI (5 * j) + 4 = nI (5 * j + 4) := nI_add _ 4
  have n1 : ¬ nI (5 * j + 1) < 0 := nI_pos (by omega)
  have n2 : ¬ nI (5 * j + 2) < 0 := nI_pos (by omega)
  have n3 : ¬ nI (5 * j + 3) < 0 := nI_pos (by omega)
  have n4 : ¬ nI (5 * j + 4) < 0 := nI_pos (by omega)
  have m1 : (nI (5 * j + 1)).toNatClampNeg = 5 * j + 1 := nI_clamp (by omega)
  have m2 : (nI (5 * j + 2)).toNatClampNeg = 5 * j + 2 := nI_clamp (by omega)
  have m3 : (nI (5 * j + 3)).toNatClampNeg = 5 * j + 3 := nI_clamp (by omega)
  have m4 : (nI (5 * j + 4)).toNatClampNeg = 5 * j + 4 := nI_clamp (by omega)
  have l1 : 5 * j + 1 < L := by omega
  have l2 : 5 * j + 2 < L := by omega
  have l3 : 5 * j + 3 < L := by omega
  have l4 : 5 * j + 4 < L := by omega
  have o0 := R.o0
  simp only [q155_365, q155_366, q155_367, q155_368, q155_369, q155_370, q155_371, q155_372, q155_373, q155_374, q155_375, q155_376, x_in, e1, e2, a1, a2, a3, a4, n1, n2, n3, n4, m1, m2, m3, m4, l1, l2, l3, l4, o0, not_false_eq_true, true_and, and_true]
  refine (p65 R w.1).mono (fun o1 w1 h => ?_)
  obtain ⟨f1, i1, v, rfl, h2⟩ := h
  have g1 : w1.2.2.1 = L := by rw [f1]
  have g2 : w1.2.2.2 = sc := by rw [f1]
  simp only [q155_379, q155_380, q155_381, q155_382, q155_383, q155_384, q155_385, q155_386, q155_387, q155_388, q155_389, q155_390, rl_some, x_in, g1, g2, a1, a2, a3, a4, n1, n2, n3, n4, m1, m2, m3, m4, l1, l2, l3, l4, i1, not_false_eq_true, true_and, and_true]
  refine (h2 w1.1).mono (fun o2 w2 h => ?_)
  obtain ⟨rfl, R2⟩ := h
  simp only [q155_393, rl_some, if_true]
  exact K w2 R2

theorem law_8 (R : REL L sc w) (hj : 5 * j + 5 ≤ L) (hL : L ≤ 2560) (K : ∀ w2, REL L sc w2 → Wp 155 b 823 [.ref x_scr, .ref 0, .ref 51, .int (nI (5 * j))] [] w2 Q) : Wp 155 b 398 [.ref x_scr, .ref 0, .ref 51, .int (nI (5 * j))] [] w Q := by
  have e1 : w.2.2.1 = L := by rw [R.1]
  have e2 : w.2.2.2 = sc := by rw [R.1]
  have a1 : nI (5 * j) + 1 = nI (5 * j + 1) := nI_add _ 1
  have a2 : nI (5 * j) + 2 = nI (5 * j + 2) := nI_add _ 2
  have a3 : nI (5 * j) + 3 = nI (5 * j + 3) := nI_add _ 3
  have a4 : nI (5 * j) + 4 = nI (5 * j + 4) := nI_add _ 4
  have n1 : ¬ nI (5 * j + 1) < 0 := nI_pos (by omega)
  have n2 : ¬ nI (5 * j + 2) < 0 := nI_pos (by omega)
  have n3 : ¬ nI (5 * j + 3) < 0 := nI_pos (by omega)
  have n4 : ¬ nI (5 * j + 4) < 0 := nI_pos (by omega)
  have m1 : (nI (5 * j + 1)).toNatClampNeg = 5 * j + 1 := nI_clamp (by omega)
  have m2 : (nI (5 * j + 2)).toNatClampNeg = 5 * j + 2 := nI_clamp (by omega)
  have m3 : (nI (5 * j + 3)).toNatClampNeg = 5 * j + 3 := nI_clamp (by omega)
  have m4 : (nI (5 * j + 4)).toNatClampNeg = 5 * j + 4 := nI_clamp (by omega)
  have l1 : 5 * j + 1 < L := by omega
  have l2 : 5 * j + 2 < L := by omega
  have l3 : 5 * j + 3 < L := by omega
  have l4 : 5 * j + 4 < L := by omega
  have o0 := R.o0
  simp only [q155_398, q155_399, q155_400, q155_401, q155_402, q155_403, q155_404, x_in, e1, e2, a1, a2, a3, a4, n1, n2, n3, n4, m1, m2, m3, m4, l1, l2, l3, l4, o0, not_false_eq_true, true_and, and_true]
  refine (p66 R w.1).mono (fun o1 w1 h => ?_)
  obtain ⟨f1, i1, v, rfl, h2⟩ := h
  have g1 : w1.2.2.1 = L := by rw [f1]
  have g2 : w1.2.2.2 = sc := by rw [f1]
  simp only [q155_407, q155_408, q155_409, q155_410, q155_411, q155_412, q155_413, rl_some, x_in, g1, g2, a1, a2, a3, a4, n1, n2, n3, n4, m1, m2, m3, m4, l1, l2, l3, l4, i1, not_false_eq_true, true_and, and_true]
  refine (h2 w1.1).mono (fun o2 w2 h => ?_)
  obtain ⟨rfl, R2⟩ := h
  simp only [q155_416, rl_some, if_true]
  exact K w2 R2

theorem law_9 (R : REL L sc w) (hj : 5 * j + 5 ≤ L) (hL : L ≤ 2560) (K : ∀ w2, REL L sc w2 → Wp 155 b 823 [.ref x_scr, .ref 0, .ref 51, .int (nI (5 * j))] [] w2 Q) : Wp 155 b 421 [.ref x_scr, .ref 0, .ref 51, .int (nI (5 * j))] [] w Q := by
  have e1 : w.2.2.1 = L := by rw [R.1]
  have e2 : w.2.2.2 = sc := by rw [R.1]
  have a1 : nI (5 * j) + 1 = nI (5 * j + 1) := nI_add _ 1
  have a2 : nI (5 * j) + 2 = nI (5 * j + 2) := nI_add _ 2
  have a3 : nI (5 * j) + 3 = nI (5 * j + 3) := nI_add _ 3
  have a4 : nI (5 * j) + 4 = nI (5 * j + 4) := nI_add _ 4
  have n1 : ¬ nI (5 * j + 1) < 0 := nI_pos (by omega)
  have n2 : ¬ nI (5 * j + 2) < 0 := nI_pos (by omega)
  have n3 : ¬ nI (5 * j + 3) < 0 := nI_pos (by omega)
  have n4 : ¬ nI (5 * j + 4) < 0 := nI_pos (by omega)
  have m1 : (nI (5 * j + 1)).toNatClampNeg = 5 * j + 1 := nI_clamp (by omega)
  have m2 : (nI (5 * j + 2)).toNatClampNeg = 5 * j + 2 := nI_clamp (by omega)
  have m3 : (nI (5 * j + 3)).toNatClampNeg = 5 * j + 3 := nI_clamp (by omega)
  have m4 : (nI (5 * j + 4)).toNatClampNeg = 5 * j + 4 := nI_clamp (by omega)
  have l1 : 5 * j + 1 < L := by omega
  have l2 : 5 * j + 2 < L := by omega
  have l3 : 5 * j + 3 < L := by omega
  have l4 : 5 * j + 4 < L := by omega
  have o0 := R.o0
  simp only [q155_421, q155_422, x_in, e1, e2, a1, a2, a3, a4, n1, n2, n3, n4, m1, m2, m3, m4, l1, l2, l3, l4, o0, not_false_eq_true, true_and, and_true]
  refine (p67 R w.1).mono (fun o1 w1 h => ?_)
  obtain ⟨f1, i1, v, rfl, h2⟩ := h
  have g1 : w1.2.2.1 = L := by rw [f1]
  have g2 : w1.2.2.2 = sc := by rw [f1]
  simp only [q155_425, q155_426, rl_some, x_in, g1, g2, a1, a2, a3, a4, n1, n2, n3, n4, m1, m2, m3, m4, l1, l2, l3, l4, i1, not_false_eq_true, true_and, and_true]
  refine (h2 w1.1).mono (fun o2 w2 h => ?_)
  obtain ⟨rfl, R2⟩ := h
  simp only [q155_429, rl_some, if_true]
  exact K w2 R2

theorem law_10 (R : REL L sc w) (hj : 5 * j + 5 ≤ L) (hL : L ≤ 2560) (K : ∀ w2, REL L sc w2 → Wp 155 b 823 [.ref x_scr, .ref 0, .ref 51, .int (nI (5 * j))] [] w2 Q) : Wp 155 b 434 [.ref x_scr, .ref 0, .ref 51, .int (nI (5 * j))] [] w Q := by
  have e1 : w.2.2.1 = L := by rw [R.1]
  have e2 : w.2.2.2 = sc := by rw [R.1]
  have a1 : nI (5 * j) + 1 = nI (5 * j + 1) := nI_add _ 1
  have a2 : nI (5 * j) + 2 = nI (5 * j + 2) := nI_add _ 2
  have a3 : nI (5 * j) + 3 = nI (5 * j + 3) := nI_add _ 3
  have a4 : nI (5 * j) + 4 = nI (5 * j + 4) := nI_add _ 4
  have n1 : ¬ nI (5 * j + 1) < 0 := nI_pos (by omega)
  have n2 : ¬ nI (5 * j + 2) < 0 := nI_pos (by omega)
  have n3 : ¬ nI (5 * j + 3) < 0 := nI_pos (by omega)
  have n4 : ¬ nI (5 * j + 4) < 0 := nI_pos (by omega)
  have m1 : (nI (5 * j + 1)).toNatClampNeg = 5 * j + 1 := nI_clamp (by omega)
  have m2 : (nI (5 * j + 2)).toNatClampNeg = 5 * j + 2 := nI_clamp (by omega)
  have m3 : (nI (5 * j + 3)).toNatClampNeg = 5 * j + 3 := nI_clamp (by omega)
  have m4 : (nI (5 * j + 4)).toNatClampNeg = 5 * j + 4 := nI_clamp (by omega)
  have l1 : 5 * j + 1 < L := by omega
  have l2 : 5 * j + 2 < L := by omega
  have l3 : 5 * j + 3 < L := by omega
  have l4 : 5 * j + 4 < L := by omega
  have o0 := R.o0
  simp only [q155_434, q155_435, q155_436, q155_437, q155_438, q155_439, q155_440, q155_441, q155_442, q155_443, q155_444, q155_445, x_in, e1, e2, a1, a2, a3, a4, n1, n2, n3, n4, m1, m2, m3, m4, l1, l2, l3, l4, o0, not_false_eq_true, true_and, and_true]
  refine (p68 R w.1).mono (fun o1 w1 h => ?_)
  obtain ⟨f1, i1, v, rfl, h2⟩ := h
  have g1 : w1.2.2.1 = L := by rw [f1]
  have g2 : w1.2.2.2 = sc := by rw [f1]
  simp only [q155_448, q155_449, q155_450, q155_451, q155_452, q155_453, q155_454, q155_455, q155_456, q155_457, q155_458, q155_459, rl_some, x_in, g1, g2, a1, a2, a3, a4, n1, n2, n3, n4, m1, m2, m3, m4, l1, l2, l3, l4, i1, not_false_eq_true, true_and, and_true]
  refine (h2 w1.1).mono (fun o2 w2 h => ?_)
  obtain ⟨rfl, R2⟩ := h
  simp only [q155_462, q155_463, rl_some, lg_same, if_true]
  exact K w2 R2

theorem law_11 (R : REL L sc w) (hj : 5 * j + 5 ≤ L) (hL : L ≤ 2560) (K : ∀ w2, REL L sc w2 → Wp 155 b 823 [.ref x_scr, .ref 0, .ref 51, .int (nI (5 * j))] [] w2 Q) : Wp 155 b 468 [.ref x_scr, .ref 0, .ref 51, .int (nI (5 * j))] [] w Q := by
  have e1 : w.2.2.1 = L := by rw [R.1]
  have e2 : w.2.2.2 = sc := by rw [R.1]
  have a1 : nI (5 * j) + 1 = nI (5 * j + 1) := nI_add _ 1
  have a2 : nI (5 * j) + 2 = nI (5 * j + 2) := nI_add _ 2
  have a3 : nI (5 * j) + 3 = nI (5 * j + 3) := nI_add _ 3
  have a4 : nI (5 * j) + 4 = nI (5 * j + 4) := nI_add _ 4
  have n1 : ¬ nI (5 * j + 1) < 0 := nI_pos (by omega)
  have n2 : ¬ nI (5 * j + 2) < 0 := nI_pos (by omega)
  have n3 : ¬ nI (5 * j + 3) < 0 := nI_pos (by omega)
  have n4 : ¬ nI (5 * j + 4) < 0 := nI_pos (by omega)
  have m1 : (nI (5 * j + 1)).toNatClampNeg = 5 * j + 1 := nI_clamp (by omega)
  have m2 : (nI (5 * j + 2)).toNatClampNeg = 5 * j + 2 := nI_clamp (by omega)
  have m3 : (nI (5 * j + 3)).toNatClampNeg = 5 * j + 3 := nI_clamp (by omega)
  have m4 : (nI (5 * j + 4)).toNatClampNeg = 5 * j + 4 := nI_clamp (by omega)
  have l1 : 5 * j + 1 < L := by omega
  have l2 : 5 * j + 2 < L := by omega
  have l3 : 5 * j + 3 < L := by omega
  have l4 : 5 * j + 4 < L := by omega
  have o0 := R.o0
  simp only [q155_468, q155_469, q155_470, q155_471, q155_472, q155_473, q155_474, x_in, e1, e2, a1, a2, a3, a4, n1, n2, n3, n4, m1, m2, m3, m4, l1, l2, l3, l4, o0, not_false_eq_true, true_and, and_true]
  refine (p69 R w.1).mono (fun o1 w1 h => ?_)
  obtain ⟨f1, i1, v, rfl, h2⟩ := h
  have g1 : w1.2.2.1 = L := by rw [f1]
  have g2 : w1.2.2.2 = sc := by rw [f1]
  simp only [q155_477, q155_478, q155_479, q155_480, q155_481, q155_482, q155_483, rl_some, x_in, g1, g2, a1, a2, a3, a4, n1, n2, n3, n4, m1, m2, m3, m4, l1, l2, l3, l4, i1, not_false_eq_true, true_and, and_true]
  refine (h2 w1.1).mono (fun o2 w2 h => ?_)
  obtain ⟨rfl, R2⟩ := h
  simp only [q155_486, q155_487, rl_some, lg_same, if_true]
  exact K w2 R2

theorem law_12 (R : REL L sc w) (hj : 5 * j + 5 ≤ L) (hL : L ≤ 2560) (K : ∀ w2, REL L sc w2 → Wp 155 b 823 [.ref x_scr, .ref 0, .ref 51, .int (nI (5 * j))] [] w2 Q) : Wp 155 b 492 [.ref x_scr, .ref 0, .ref 51, .int (nI (5 * j))] [] w Q := by
  have e1 : w.2.2.1 = L := by rw [R.1]
  have e2 : w.2.2.2 = sc := by rw [R.1]
  have a1 : nI (5 * j) + 1 = nI (5 * j + 1) := nI_add _ 1
  have a2 : nI (5 * j) + 2 = nI (5 * j + 2) := nI_add _ 2
  have a3 : nI (5 * j) + 3 = nI (5 * j + 3) := nI_add _ 3
  have a4 : nI (5 * j) + 4 = nI (5 * j + 4) := nI_add _ 4
  have n1 : ¬ nI (5 * j + 1) < 0 := nI_pos (by omega)
  have n2 : ¬ nI (5 * j + 2) < 0 := nI_pos (by omega)
  have n3 : ¬ nI (5 * j + 3) < 0 := nI_pos (by omega)
  have n4 : ¬ nI (5 * j + 4) < 0 := nI_pos (by omega)
  have m1 : (nI (5 * j + 1)).toNatClampNeg = 5 * j + 1 := nI_clamp (by omega)
  have m2 : (nI (5 * j + 2)).toNatClampNeg = 5 * j + 2 := nI_clamp (by omega)
  have m3 : (nI (5 * j + 3)).toNatClampNeg = 5 * j + 3 := nI_clamp (by omega)
  have m4 : (nI (5 * j + 4)).toNatClampNeg = 5 * j + 4 := nI_clamp (by omega)
  have l1 : 5 * j + 1 < L := by omega
  have l2 : 5 * j + 2 < L := by omega
  have l3 : 5 * j + 3 < L := by omega
  have l4 : 5 * j + 4 < L := by omega
  have o0 := R.o0
  simp only [q155_492, q155_493, q155_494, q155_495, q155_496, q155_497, q155_498, q155_499, q155_500, q155_501, q155_502, q155_503, q155_504, q155_505, q155_506, q155_507, q155_508, x_in, e1, e2, a1, a2, a3, a4, n1, n2, n3, n4, m1, m2, m3, m4, l1, l2, l3, l4, o0, not_false_eq_true, true_and, and_true]
  refine (p70 R w.1).mono (fun o1 w1 h => ?_)
  obtain ⟨f1, i1, v, rfl, h2⟩ := h
  have g1 : w1.2.2.1 = L := by rw [f1]
  have g2 : w1.2.2.2 = sc := by rw [f1]
  simp only [q155_511, q155_512, q155_513, q155_514, q155_515, q155_516, q155_517, q155_518, q155_519, q155_520, q155_521, q155_522, q155_523, q155_524, q155_525, q155_526, q155_527, rl_some, x_in, g1, g2, a1, a2, a3, a4, n1, n2, n3, n4, m1, m2, m3, m4, l1, l2, l3, l4, i1, not_false_eq_true, true_and, and_true]
  refine (h2 w1.1).mono (fun o2 w2 h => ?_)
  obtain ⟨rfl, R2⟩ := h
  simp only [q155_530, q155_531, rl_some, lg_same, if_true]
  exact K w2 R2

theorem law_13 (R : REL L sc w) (hj : 5 * j + 5 ≤ L) (hL : L ≤ 2560) (K : ∀ w2, REL L sc w2 → Wp 155 b 823 [.ref x_scr, .ref 0, .ref 51, .int (nI (5 * j))] [] w2 Q) : Wp 155 b 536 [.ref x_scr, .ref 0, .ref 51, .int (nI (5 * j))] [] w Q := by
  have e1 : w.2.2.1 = L := by rw [R.1]
  have e2 : w.2.2.2 = sc := by rw [R.1]
  have a1 : nI (5 * j) + 1 = nI (5 * j + 1) := nI_add _ 1
  have a2 : nI (5 * j) + 2 = nI (5 * j + 2) := nI_add _ 2
  have a3 : nI (5 * j) + 3 = nI (5 * j + 3) := nI_add _ 3
  have a4 : nI (5 * j) + 4 = nI (5 * j + 4) := nI_add _ 4
  have n1 : ¬ nI (5 * j + 1) < 0 := nI_pos (by omega)
  have n2 : ¬ nI (5 * j + 2) < 0 := nI_pos (by omega)
  have n3 : ¬ nI (5 * j + 3) < 0 := nI_pos (by omega)
  have n4 : ¬ nI (5 * j + 4) < 0 := nI_pos (by omega)
  have m1 : (nI (5 * j + 1)).toNatClampNeg = 5 * j + 1 := nI_clamp (by omega)
  have m2 : (nI (5 * j + 2)).toNatClampNeg = 5 * j + 2 := nI_clamp (by omega)
  have m3 : (nI (5 * j + 3)).toNatClampNeg = 5 * j + 3 := nI_clamp (by omega)
  have m4 : (nI (5 * j + 4)).toNatClampNeg = 5 * j + 4 := nI_clamp (by omega)
  have l1 : 5 * j + 1 < L := by omega
  have l2 : 5 * j + 2 < L := by omega
  have l3 : 5 * j + 3 < L := by omega
  have l4 : 5 * j + 4 < L := by omega
  have o0 := R.o0
  simp only [q155_536, q155_537, q155_538, q155_539, q155_540, q155_541, q155_542, q155_543, q155_544, q155_545, q155_546, q155_547, x_in, e1, e2, a1, a2, a3, a4, n1, n2, n3, n4, m1, m2, m3, m4, l1, l2, l3, l4, o0, not_false_eq_true, true_and, and_true]
  refine (p71 R w.1).mono (fun o1 w1 h => ?_)
  obtain ⟨f1, i1, v, rfl, h2⟩ := h
  have g1 : w1.2.2.1 = L := by rw [f1]
  have g2 : w1.2.2.2 = sc := by rw [f1]
  simp only [q155_550, q155_551, q155_552, q155_553, q155_554, q155_555, q155_556, q155_557, q155_558, q155_559, q155_560, q155_561, rl_some, x_in, g1, g2, a1, a2, a3, a4, n1, n2, n3, n4, m1, m2, m3, m4, l1, l2, l3, l4, i1, not_false_eq_true, true_and, and_true]
  refine (h2 w1.1).mono (fun o2 w2 h => ?_)
  obtain ⟨rfl, R2⟩ := h
  simp only [q155_564, q155_565, rl_some, lg_same, if_true]
  exact K w2 R2

theorem law_14 (R : REL L sc w) (hj : 5 * j + 5 ≤ L) (hL : L ≤ 2560) (K : ∀ w2, REL L sc w2 → Wp 155 b 823 [.ref x_scr, .ref 0, .ref 51, .int (nI (5 * j))] [] w2 Q) : Wp 155 b 570 [.ref x_scr, .ref 0, .ref 51, .int (nI (5 * j))] [] w Q := by
  have e1 : w.2.2.1 = L := by rw [R.1]
  have e2 : w.2.2.2 = sc := by rw [R.1]
  have a1 : nI (5 * j) + 1 = nI (5 * j + 1) := nI_add _ 1
  have a2 : nI (5 * j) + 2 = nI (5 * j + 2) := nI_add _ 2
  have a3 : nI (5 * j) + 3 = nI (5 * j + 3) := nI_add _ 3
  have a4 : nI (5 * j) + 4 = nI (5 * j + 4) := nI_add _ 4
  have n1 : ¬ nI (5 * j + 1) < 0 := nI_pos (by omega)
  have n2 : ¬ nI (5 * j + 2) < 0 := nI_pos (by omega)
  have n3 : ¬ nI (5 * j + 3) < 0 := nI_pos (by omega)
  have n4 : ¬ nI (5 * j + 4) < 0 := nI_pos (by omega)
  have m1 : (nI (5 * j + 1)).toNatClampNeg = 5 * j + 1 := nI_clamp (by omega)
  have m2 : (nI (5 * j + 2)).toNatClampNeg = 5 * j + 2 := nI_clamp (by omega)
  have m3 : (nI (5 * j + 3)).toNatClampNeg = 5 * j + 3 := nI_clamp (by omega)
  have m4 : (nI (5 * j + 4)).toNatClampNeg = 5 * j + 4 := nI_clamp (by omega)
  have l1 : 5 * j + 1 < L := by omega
  have l2 : 5 * j + 2 < L := by omega
  have l3 : 5 * j + 3 < L := by omega
  have l4 : 5 * j + 4 < L := by omega
  have o0 := R.o0
  simp only [q155_570, q155_571, q155_572, q155_573, q155_574, q155_575, q155_576, q155_577, q155_578, q155_579, q155_580, q155_581, x_in, e1, e2, a1, a2, a3, a4, n1, n2, n3, n4, m1, m2, m3, m4, l1, l2, l3, l4, o0, not_false_eq_true, true_and, and_true]
  refine (p72 R w.1).mono (fun o1 w1 h => ?_)
  obtain ⟨f1, i1, v, rfl, h2⟩ := h
  have g1 : w1.2.2.1 = L := by rw [f1]
  have g2 : w1.2.2.2 = sc := by rw [f1]
  simp only [q155_584, q155_585, q155_586, q155_587, q155_588, q155_589, q155_590, q155_591, q155_592, q155_593, q155_594, q155_595, rl_some, x_in, g1, g2, a1, a2, a3, a4, n1, n2, n3, n4, m1, m2, m3, m4, l1, l2, l3, l4, i1, not_false_eq_true, true_and, and_true]
  refine (h2 w1.1).mono (fun o2 w2 h => ?_)
  obtain ⟨rfl, R2⟩ := h
  simp only [q155_598, q155_599, rl_some, lg_same, if_true]
  exact K w2 R2

theorem law_15 (R : REL L sc w) (hj : 5 * j + 5 ≤ L) (hL : L ≤ 2560) (K : ∀ w2, REL L sc w2 → Wp 155 b 823 [.ref x_scr, .ref 0, .ref 51, .int (nI (5 * j))] [] w2 Q) : Wp 155 b 604 [.ref x_scr, .ref 0, .ref 51, .int (nI (5 * j))] [] w Q := by
  have e1 : w.2.2.1 = L := by rw [R.1]
  have e2 : w.2.2.2 = sc := by rw [R.1]
  have a1 : nI (5 * j) + 1 = nI (5 * j + 1) := nI_add _ 1
  have a2 : nI (5 * j) + 2 = nI (5 * j + 2) := nI_add _ 2
  have a3 : nI (5 * j) + 3 = nI (5 * j + 3) := nI_add _ 3
  have a4 : nI (5 * j) + 4 = nI (5 * j + 4) := nI_add _ 4
  have n1 : ¬ nI (5 * j + 1) < 0 := nI_pos (by omega)
  have n2 : ¬ nI (5 * j + 2) < 0 := nI_pos (by omega)
  have n3 : ¬ nI (5 * j + 3) < 0 := nI_pos (by omega)
  have n4 : ¬ nI (5 * j + 4) < 0 := nI_pos (by omega)
  have m1 : (nI (5 * j + 1)).toNatClampNeg = 5 * j + 1 := nI_clamp (by omega)
  have m2 : (nI (5 * j + 2)).toNatClampNeg = 5 * j + 2 := nI_clamp (by omega)
  have m3 : (nI (5 * j + 3)).toNatClampNeg = 5 * j + 3 := nI_clamp (by omega)
  have m4 : (nI (5 * j + 4)).toNatClampNeg = 5 * j + 4 := nI_clamp (by omega)
  have l1 : 5 * j + 1 < L := by omega
  have l2 : 5 * j + 2 < L := by omega
  have l3 : 5 * j + 3 < L := by omega
  have l4 : 5 * j + 4 < L := by omega
  have o0 := R.o0
  simp only [q155_604, q155_605, q155_606, q155_607, q155_608, q155_609, q155_610, x_in, e1, e2, a1, a2, a3, a4, n1, n2, n3, n4, m1, m2, m3, m4, l1, l2, l3, l4, o0, not_false_eq_true, true_and, and_true]
  refine (p73 R w.1).mono (fun o1 w1 h => ?_)
  obtain ⟨f1, i1, v, rfl, h2⟩ := h
  have g1 : w1.2.2.1 = L := by rw [f1]
  have g2 : w1.2.2.2 = sc := by rw [f1]
  simp only [q155_613, q155_614, q155_615, q155_616, q155_617, q155_618, q155_619, rl_some, x_in, g1, g2, a1, a2, a3, a4, n1, n2, n3, n4, m1, m2, m3, m4, l1, l2, l3, l4, i1, not_false_eq_true, true_and, and_true]
  refine (h2 w1.1).mono (fun o2 w2 h => ?_)
  obtain ⟨rfl, R2⟩ := h
  simp only [q155_622, rl_some, if_true]
  exact K w2 R2

theorem law_16 (R : REL L sc w) (hj : 5 * j + 5 ≤ L) (hL : L ≤ 2560) (K : ∀ w2, REL L sc w2 → Wp 155 b 823 [.ref x_scr, .ref 0, .ref 51, .int (nI (5 * j))] [] w2 Q) : Wp 155 b 627 [.ref x_scr, .ref 0, .ref 51, .int (nI (5 * j))] [] w Q := by
  have e1 : w.2.2.1 = L := by rw [R.1]
  have e2 : w.2.2.2 = sc := by rw [R.1]
  have a1 : nI (5 * j) + 1 = nI (5 * j + 1) := nI_add _ 1
  have a2 : nI (5 * j) + 2 = nI (5 * j + 2) := nI_add _ 2
  have a3 : nI (5 * j) + 3 = nI (5 * j + 3) := nI_add _ 3
  have a4 : nI (5 * j) + 4 = nI (5 * j + 4) := nI_add _ 4
  have n1 : ¬ nI (5 * j + 1) < 0 := nI_pos (by omega)
  have n2 : ¬ nI (5 * j + 2) < 0 := nI_pos (by omega)
  have n3 : ¬ nI (5 * j + 3) < 0 := nI_pos (by omega)
  have n4 : ¬ nI (5 * j + 4) < 0 := nI_pos (by omega)
  have m1 : (nI (5 * j + 1)).toNatClampNeg = 5 * j + 1 := nI_clamp (by omega)
  have m2 : (nI (5 * j + 2)).toNatClampNeg = 5 * j + 2 := nI_clamp (by omega)
  have m3 : (nI (5 * j + 3)).toNatClampNeg = 5 * j + 3 := nI_clamp (by omega)
  have m4 : (nI (5 * j + 4)).toNatClampNeg = 5 * j + 4 := nI_clamp (by omega)
  have l1 : 5 * j + 1 < L := by omega
  have l2 : 5 * j + 2 < L := by omega
  have l3 : 5 * j + 3 < L := by omega
  have l4 : 5 * j + 4 < L := by omega
  have o0 := R.o0
  simp only [q155_627, q155_628, q155_629, q155_630, q155_631, q155_632, q155_633, q155_634, q155_635, q155_636, q155_637, q155_638, q155_639, q155_640, q155_641, q155_642, q155_643, q155_644, q155_645, q155_646, q155_647, q155_648, x_in, e1, e2, a1, a2, a3, a4, n1, n2, n3, n4, m1, m2, m3, m4, l1, l2, l3, l4, o0, not_false_eq_true, true_and, and_true]
  refine (p74 R w.1).mono (fun o1 w1 h => ?_)
  obtain ⟨f1, i1, v, rfl, h2⟩ := h
  have g1 : w1.2.2.1 = L := by rw [f1]
  have g2 : w1.2.2.2 = sc := by rw [f1]
  simp only [q155_651, q155_652, q155_653, q155_654, q155_655, q155_656, q155_657, q155_658, q155_659, q155_660, q155_661, q155_662, q155_663, q155_664, q155_665, q155_666, q155_667, q155_668, q155_669, q155_670, q155_671, q155_672, rl_some, x_in, g1, g2, a1, a2, a3, a4, n1, n2, n3, n4, m1, m2, m3, m4, l1, l2, l3, l4, i1, not_false_eq_true, true_and, and_true]
  refine (h2 w1.1).mono (fun o2 w2 h => ?_)
  obtain ⟨rfl, R2⟩ := h
  simp only [q155_675, q155_676, rl_some, lg_same, if_true]
  exact K w2 R2

theorem law_17 (R : REL L sc w) (hj : 5 * j + 5 ≤ L) (hL : L ≤ 2560) (K : ∀ w2, REL L sc w2 → Wp 155 b 823 [.ref x_scr, .ref 0, .ref 51, .int (nI (5 * j))] [] w2 Q) : Wp 155 b 681 [.ref x_scr, .ref 0, .ref 51, .int (nI (5 * j))] [] w Q := by
  have e1 : w.2.2.1 = L := by rw [R.1]
  have e2 : w.2.2.2 = sc := by rw [R.1]
  have a1 : nI (5 * j) + 1 = nI (5 * j + 1) := nI_add _ 1
  have a2 : nI (5 * j) + 2 = nI (5 * j + 2) := nI_add _ 2
  have a3 : nI (5 * j) + 3 = nI (5 * j + 3) := nI_add _ 3
  have a4 : nI (5 * j) + 4 = nI (5 * j + 4) := nI_add _ 4
  have n1 : ¬ nI (5 * j + 1) < 0 := nI_pos (by omega)
  have n2 : ¬ nI (5 * j + 2) < 0 := nI_pos (by omega)
  have n3 : ¬ nI (5 * j + 3) < 0 := nI_pos (by omega)
  have n4 : ¬ nI (5 * j + 4) < 0 := nI_pos (by omega)
  have m1 : (nI (5 * j + 1)).toNatClampNeg = 5 * j + 1 := nI_clamp (by omega)
  have m2 : (nI (5 * j + 2)).toNatClampNeg = 5 * j + 2 := nI_clamp (by omega)
  have m3 : (nI (5 * j + 3)).toNatClampNeg = 5 * j + 3 := nI_clamp (by omega)
  have m4 : (nI (5 * j + 4)).toNatClampNeg = 5 * j + 4 := nI_clamp (by omega)
  have l1 : 5 * j + 1 < L := by omega
  have l2 : 5 * j + 2 < L := by omega
  have l3 : 5 * j + 3 < L := by omega
  have l4 : 5 * j + 4 < L := by omega
  have o0 := R.o0
  simp only [q155_681, q155_682, q155_683, q155_684, q155_685, q155_686, q155_687, x_in, e1, e2, a1, a2, a3, a4, n1, n2, n3, n4, m1, m2, m3, m4, l1, l2, l3, l4, o0, not_false_eq_true, true_and, and_true]
  refine (p75 R w.1).mono (fun o1 w1 h => ?_)
  obtain ⟨f1, i1, v, rfl, h2⟩ := h
  have g1 : w1.2.2.1 = L := by rw [f1]
  have g2 : w1.2.2.2 = sc := by rw [f1]
  simp only [q155_690, q155_691, q155_692, q155_693, q155_694, q155_695, q155_696, rl_some, x_in, g1, g2, a1, a2, a3, a4, n1, n2, n3, n4, m1, m2, m3, m4, l1, l2, l3, l4, i1, not_false_eq_true, true_and, and_true]
  refine (h2 w1.1).mono (fun o2 w2 h => ?_)
  obtain ⟨rfl, R2⟩ := h
  simp only [q155_699, rl_some, if_true]
  exact K w2 R2

theorem law_18 (R : REL L sc w) (hj : 5 * j + 5 ≤ L) (hL : L ≤ 2560) (K : ∀ w2, REL L sc w2 → Wp 155 b 823 [.ref x_scr, .ref 0, .ref 51, .int (nI (5 * j))] [] w2 Q) : Wp 155 b 704 [.ref x_scr, .ref 0, .ref 51, .int (nI (5 * j))] [] w Q := by
  have e1 : w.2.2.1 = L := by rw [R.1]
  have e2 : w.2.2.2 = sc := by rw [R.1]
  have a1 : nI (5 * j) + 1 = nI (5 * j + 1) := nI_add _ 1
  have a2 : nI (5 * j) + 2 = nI (5 * j + 2) := nI_add _ 2
  have a3 : nI (5 * j) + 3 = nI (5 * j + 3) := nI_add _ 3
  have a4 : nI (5 * j) + 4 = nI (5 * j + 4) := nI_add _ 4
  have n1 : ¬ nI (5 * j + 1) < 0 := nI_pos (by omega)
  have n2 : ¬ nI (5 * j + 2) < 0 := nI_pos (by omega)
  have n3 : ¬ nI (5 * j + 3) < 0 := nI_pos (by omega)
  have n4 : ¬ nI (5 * j + 4) < 0 := nI_pos (by omega)
  have m1 : (nI (5 * j + 1)).toNatClampNeg = 5 * j + 1 := nI_clamp (by omega)
  have m2 : (nI (5 * j + 2)).toNatClampNeg = 5 * j + 2 := nI_clamp (by omega)
  have m3 : (nI (5 * j + 3)).toNatClampNeg = 5 * j + 3 := nI_clamp (by omega)
  have m4 : (nI (5 * j + 4)).toNatClampNeg = 5 * j + 4 := nI_clamp (by omega)
  have l1 : 5 * j + 1 < L := by omega
  have l2 : 5 * j + 2 < L := by omega
  have l3 : 5 * j + 3 < L := by omega
  have l4 : 5 * j + 4 < L := by omega
  have o0 := R.o0
  simp only [q155_704, q155_705, q155_706, q155_707, q155_708, q155_709, q155_710, q155_711, q155_712, q155_713, q155_714, q155_715, x_in, e1, e2, a1, a2, a3, a4, n1, n2, n3, n4, m1, m2, m3, m4, l1, l2, l3, l4, o0, not_false_eq_true, true_and, and_true]
  refine (p76 R w.1).mono (fun o1 w1 h => ?_)
  obtain ⟨f1, i1, v, rfl, h2⟩ := h
  have g1 : w1.2.2.1 = L := by rw [f1]
  have g2 : w1.2.2.2 = sc := by rw [f1]
  simp only [q155_718, q155_719, q155_720, q155_721, q155_722, q155_723, q155_724, q155_725, q155_726, q155_727, q155_728, q155_729, rl_some, x_in, g1, g2, a1, a2, a3, a4, n1, n2, n3, n4, m1, m2, m3, m4, l1, l2, l3, l4, i1, not_false_eq_true, true_and, and_true]
  refine (h2 w1.1).mono (fun o2 w2 h => ?_)
  obtain ⟨rfl, R2⟩ := h
  simp only [q155_732, q155_733, rl_some, lg_same, if_true]
  exact K w2 R2

theorem law_19 (R : REL L sc w) (hj : 5 * j + 5 ≤ L) (hL : L ≤ 2560) (K : ∀ w2, REL L sc w2 → Wp 155 b 823 [.ref x_scr, .ref 0, .ref 51, .int (nI (5 * j))] [] w2 Q) : Wp 155 b 738 [.ref x_scr, .ref 0, .ref 51, .int (nI (5 * j))] [] w Q := by
  have e1 : w.2.2.1 = L := by rw [R.1]
  have e2 : w.2.2.2 = sc := by rw [R.1]
  have a1 : nI (5 * j) + 1 = nI (5 * j + 1) := nI_add _ 1
  have a2 : nI (5 * j) + 2 = nI (5 * j + 2) := nI_add _ 2
  have a3 : nI (5 * j) + 3 = nI (5 * j + 3) := nI_add _ 3
  have a4 : nI (5 * j) + 4 = nI (5 * j + 4) := nI_add _ 4
  have n1 : ¬ nI (5 * j + 1) < 0 := nI_pos (by omega)
  have n2 : ¬ nI (5 * j + 2) < 0 := nI_pos (by omega)
  have n3 : ¬ nI (5 * j + 3) < 0 := nI_pos (by omega)
  have n4 : ¬ nI (5 * j + 4) < 0 := nI_pos (by omega)
  have m1 : (nI (5 * j + 1)).toNatClampNeg = 5 * j + 1 := nI_clamp (by omega)
  have m2 : (nI (5 * j + 2)).toNatClampNeg = 5 * j + 2 := nI_clamp (by omega)
  have m3 : (nI (5 * j + 3)).toNatClampNeg = 5 * j + 3 := nI_clamp (by omega)
  have m4 : (nI (5 * j + 4)).toNatClampNeg = 5 * j + 4 := nI_clamp (by omega)
  have l1 : 5 * j + 1 < L := by omega
  have l2 : 5 * j + 2 < L := by omega
  have l3 : 5 * j + 3 < L := by omega
  have l4 : 5 * j + 4 < L := by omega
  have o0 := R.o0
  simp only [q155_738, q155_739, x_in, e1, e2, a1, a2, a3, a4, n1, n2, n3, n4, m1, m2, m3, m4, l1, l2, l3, l4, o0, not_false_eq_true, true_and, and_true]
  refine (p77 R w.1).mono (fun o1 w1 h => ?_)
  obtain ⟨f1, i1, v, rfl, h2⟩ := h
  have g1 : w1.2.2.1 = L := by rw [f1]
  have g2 : w1.2.2.2 = sc := by rw [f1]
  simp only [q155_742, q155_743, rl_some, x_in, g1, g2, a1, a2, a3, a4, n1, n2, n3, n4, m1, m2, m3, m4, l1, l2, l3, l4, i1, not_false_eq_true, true_and, and_true]
  refine (h2 w1.1).mono (fun o2 w2 h => ?_)
  obtain ⟨rfl, R2⟩ := h
  simp only [q155_746, rl_some, if_true]
  exact K w2 R2

theorem law_20 (R : REL L sc w) (hj : 5 * j + 5 ≤ L) (hL : L ≤ 2560) (K : ∀ w2, REL L sc w2 → Wp 155 b 823 [.ref x_scr, .ref 0, .ref 51, .int (nI (5 * j))] [] w2 Q) : Wp 155 b 751 [.ref x_scr, .ref 0, .ref 51, .int (nI (5 * j))] [] w Q := by
  have e1 : w.2.2.1 = L := by rw [R.1]
  have e2 : w.2.2.2 = sc := by rw [R.1]
  have a1 : nI (5 * j) + 1 = nI (5 * j + 1) := nI_add _ 1
  have a2 : nI (5 * j) + 2 = nI (5 * j + 2) := nI_add _ 2
  have a3 : nI (5 * j) + 3 = nI (5 * j + 3) := nI_add _ 3
  have a4 : nI (5 * j) + 4 = nI (5 * j + 4) := nI_add _ 4
  have n1 : ¬ nI (5 * j + 1) < 0 := nI_pos (by omega)
  have n2 : ¬ nI (5 * j + 2) < 0 := nI_pos (by omega)
  have n3 : ¬ nI (5 * j + 3) < 0 := nI_pos (by omega)
  have n4 : ¬ nI (5 * j + 4) < 0 := nI_pos (by omega)
  have m1 : (nI (5 * j + 1)).toNatClampNeg = 5 * j + 1 := nI_clamp (by omega)
  have m2 : (nI (5 * j + 2)).toNatClampNeg = 5 * j + 2 := nI_clamp (by omega)
  have m3 : (nI (5 * j + 3)).toNatClampNeg = 5 * j + 3 := nI_clamp (by omega)
  have m4 : (nI (5 * j + 4)).toNatClampNeg = 5 * j + 4 := nI_clamp (by omega)
  have l1 : 5 * j + 1 < L := by omega
  have l2 : 5 * j + 2 < L := by omega
  have l3 : 5 * j + 3 < L := by omega
  have l4 : 5 * j + 4 < L := by omega
  have o0 := R.o0
  simp only [q155_751, q155_752, q155_753, q155_754, q155_755, q155_756, q155_757, x_in, e1, e2, a1, a2, a3, a4, n1, n2, n3, n4, m1, m2, m3, m4, l1, l2, l3, l4, o0, not_false_eq_true, true_and, and_true]
  refine (p78 R w.1).mono (fun o1 w1 h => ?_)
  obtain ⟨f1, i1, v, rfl, h2⟩ := h
  have g1 : w1.2.2.1 = L := by rw [f1]
  have g2 : w1.2.2.2 = sc := by rw [f1]
  simp only [q155_760, q155_761, q155_762, q155_763, q155_764, q155_765, q155_766, rl_some, x_in, g1, g2, a1, a2, a3, a4, n1, n2, n3, n4, m1, m2, m3, m4, l1, l2, l3, l4, i1, not_false_eq_true, true_and, and_true]
  refine (h2 w1.1).mono (fun o2 w2 h => ?_)
  obtain ⟨rfl, R2⟩ := h
  simp only [q155_769, rl_some, if_true]
  exact K w2 R2

theorem law_21 (R : REL L sc w) (hj : 5 * j + 5 ≤ L) (hL : L ≤ 2560) (K : ∀ w2, REL L sc w2 → Wp 155 b 823 [.ref x_scr, .ref 0, .ref 51, .int (nI (5 * j))] [] w2 Q) : Wp 155 b 774 [.ref x_scr, .ref 0, .ref 51, .int (nI (5 * j))] [] w Q := by
  have e1 : w.2.2.1 = L := by rw [R.1]
  have e2 : w.2.2.2 = sc := by rw [R.1]
  have a1 : nI (5 * j) + 1 = nI (5 * j + 1) := nI_add _ 1
  have a2 : nI (5 * j) + 2 = nI (5 * j + 2) := nI_add _ 2
  have a3 : nI (5 * j) + 3 = nI (5 * j + 3) := nI_add _ 3
  have a4 : nI (5 * j) + 4 = nI (5 * j + 4) := nI_add _ 4
  have n1 : ¬ nI (5 * j + 1) < 0 := nI_pos (by omega)
  have n2 : ¬ nI (5 * j + 2) < 0 := nI_pos (by omega)
  have n3 : ¬ nI (5 * j + 3) < 0 := nI_pos (by omega)
  have n4 : ¬ nI (5 * j + 4) < 0 := nI_pos (by omega)
  have m1 : (nI (5 * j + 1)).toNatClampNeg = 5 * j + 1 := nI_clamp (by omega)
  have m2 : (nI (5 * j + 2)).toNatClampNeg = 5 * j + 2 := nI_clamp (by omega)
  have m3 : (nI (5 * j + 3)).toNatClampNeg = 5 * j + 3 := nI_clamp (by omega)
  have m4 : (nI (5 * j + 4)).toNatClampNeg = 5 * j + 4 := nI_clamp (by omega)
  have l1 : 5 * j + 1 < L := by omega
  have l2 : 5 * j + 2 < L := by omega
  have l3 : 5 * j + 3 < L := by omega
  have l4 : 5 * j + 4 < L := by omega
  have o0 := R.o0
  simp only [q155_774, q155_775, x_in, e1, e2, a1, a2, a3, a4, n1, n2, n3, n4, m1, m2, m3, m4, l1, l2, l3, l4, o0, not_false_eq_true, true_and, and_true]
  refine (p79 R w.1).mono (fun o1 w1 h => ?_)
  obtain ⟨f1, i1, v, rfl, h2⟩ := h
  have g1 : w1.2.2.1 = L := by rw [f1]
  have g2 : w1.2.2.2 = sc := by rw [f1]
  simp only [q155_778, q155_779, rl_some, x_in, g1, g2, a1, a2, a3, a4, n1, n2, n3, n4, m1, m2, m3, m4, l1, l2, l3, l4, i1, not_false_eq_true, true_and, and_true]
  refine (h2 w1.1).mono (fun o2 w2 h => ?_)
  obtain ⟨rfl, R2⟩ := h
  simp only [q155_782, rl_some, if_true]
  exact K w2 R2

theorem law_22 (R : REL L sc w) (hj : 5 * j + 5 ≤ L) (hL : L ≤ 2560) (K : ∀ w2, REL L sc w2 → Wp 155 b 823 [.ref x_scr, .ref 0, .ref 51, .int (nI (5 * j))] [] w2 Q) : Wp 155 b 787 [.ref x_scr, .ref 0, .ref 51, .int (nI (5 * j))] [] w Q := by
  have e1 : w.2.2.1 = L := by rw [R.1]
  have e2 : w.2.2.2 = sc := by rw [R.1]
  have a1 : nI (5 * j) + 1 = nI (5 * j + 1) := nI_add _ 1
  have a2 : nI (5 * j) + 2 = nI (5 * j + 2) := nI_add _ 2
  have a3 : nI (5 * j) + 3 = nI (5 * j + 3) := nI_add _ 3
  have a4 : nI (5 * j) + 4 = nI (5 * j + 4) := nI_add _ 4
  have n1 : ¬ nI (5 * j + 1) < 0 := nI_pos (by omega)
  have n2 : ¬ nI (5 * j + 2) < 0 := nI_pos (by omega)
  have n3 : ¬ nI (5 * j + 3) < 0 := nI_pos (by omega)
  have n4 : ¬ nI (5 * j + 4) < 0 := nI_pos (by omega)
  have m1 : (nI (5 * j + 1)).toNatClampNeg = 5 * j + 1 := nI_clamp (by omega)
  have m2 : (nI (5 * j + 2)).toNatClampNeg = 5 * j + 2 := nI_clamp (by omega)
  have m3 : (nI (5 * j + 3)).toNatClampNeg = 5 * j + 3 := nI_clamp (by omega)
  have m4 : (nI (5 * j + 4)).toNatClampNeg = 5 * j + 4 := nI_clamp (by omega)
  have l1 : 5 * j + 1 < L := by omega
  have l2 : 5 * j + 2 < L := by omega
  have l3 : 5 * j + 3 < L := by omega
  have l4 : 5 * j + 4 < L := by omega
  have o0 := R.o0
  simp only [q155_787, q155_788, q155_789, q155_790, q155_791, q155_792, q155_793, x_in, e1, e2, a1, a2, a3, a4, n1, n2, n3, n4, m1, m2, m3, m4, l1, l2, l3, l4, o0, not_false_eq_true, true_and, and_true]
  refine (p80 R w.1).mono (fun o1 w1 h => ?_)
  obtain ⟨f1, i1, v, rfl, h2⟩ := h
  have g1 : w1.2.2.1 = L := by rw [f1]
  have g2 : w1.2.2.2 = sc := by rw [f1]
  simp only [q155_796, q155_797, q155_798, q155_799, q155_800, q155_801, q155_802, rl_some, x_in, g1, g2, a1, a2, a3, a4, n1, n2, n3, n4, m1, m2, m3, m4, l1, l2, l3, l4, i1, not_false_eq_true, true_and, and_true]
  refine (h2 w1.1).mono (fun o2 w2 h => ?_)
  obtain ⟨rfl, R2⟩ := h
  simp only [q155_805, rl_some, if_true]
  exact K w2 R2

theorem law_23 (R : REL L sc w) (hj : 5 * j + 5 ≤ L) (hL : L ≤ 2560) (K : ∀ w2, REL L sc w2 → Wp 155 b 823 [.ref x_scr, .ref 0, .ref 51, .int (nI (5 * j))] [] w2 Q) : Wp 155 b 810 [.ref x_scr, .ref 0, .ref 51, .int (nI (5 * j))] [] w Q := by
  have e1 : w.2.2.1 = L := by rw [R.1]
  have e2 : w.2.2.2 = sc := by rw [R.1]
  have a1 : nI (5 * j) + 1 = nI (5 * j + 1) := nI_add _ 1
  have a2 : nI (5 * j) + 2 = nI (5 * j + 2) := nI_add _ 2
  have a3 : nI (5 * j) + 3 = nI (5 * j + 3) := nI_add _ 3
  have a4 : nI (5 * j) + 4 = nI (5 * j + 4) := nI_add _ 4
  have n1 : ¬ nI (5 * j + 1) < 0 := nI_pos (by omega)
  have n2 : ¬ nI (5 * j + 2) < 0 := nI_pos (by omega)
  have n3 : ¬ nI (5 * j + 3) < 0 := nI_pos (by omega)
  have n4 : ¬ nI (5 * j + 4) < 0 := nI_pos (by omega)
  have m1 : (nI (5 * j + 1)).toNatClampNeg = 5 * j + 1 := nI_clamp (by omega)
  have m2 : (nI (5 * j + 2)).toNatClampNeg = 5 * j + 2 := nI_clamp (by omega)
  have m3 : (nI (5 * j + 3)).toNatClampNeg = 5 * j + 3 := nI_clamp (by omega)
  have m4 : (nI (5 * j + 4)).toNatClampNeg = 5 * j + 4 := nI_clamp (by omega)
  have l1 : 5 * j + 1 < L := by omega
  have l2 : 5 * j + 2 < L := by omega
  have l3 : 5 * j + 3 < L := by omega
  have l4 : 5 * j + 4 < L := by omega
  have o0 := R.o0
  simp only [q155_810, q155_811, x_in, e1, e2, a1, a2, a3, a4, n1, n2, n3, n4, m1, m2, m3, m4, l1, l2, l3, l4, o0, not_false_eq_true, true_and, and_true]
  refine (p81 R w.1).mono (fun o1 w1 h => ?_)
  obtain ⟨f1, i1, v, rfl, h2⟩ := h
  have g1 : w1.2.2.1 = L := by rw [f1]
  have g2 : w1.2.2.2 = sc := by rw [f1]
  simp only [q155_814, q155_815, rl_some, x_in, g1, g2, a1, a2, a3, a4, n1, n2, n3, n4, m1, m2, m3, m4, l1, l2, l3, l4, i1, not_false_eq_true, true_and, and_true]
  refine (h2 w1.1).mono (fun o2 w2 h => ?_)
  obtain ⟨rfl, R2⟩ := h
  simp only [q155_818, rl_some, if_true]
  exact K w2 R2

theorem x_lenL {L : Nat} (h : L ≤ 2560) : (Int32.ofNat L - 5).toInt = (L : Int) - 5 := by
  rw [Int32.toInt_sub, show (Int32.ofNat L).toInt = (L : Int) from nI_toInt (by omega), show (5 : Int32).toInt = 5 from rfl]
  simp only [Int.bmod]
  omega
theorem law_loop (hL : L ≤ 2560) : ∀ (k j : Nat) (w : xW), L ≤ 5 * (j + k) → REL L sc w → (∀ w2, Q (some (.int 1)) w2) → 5 * j ≤ 2560 → Wp 155 b 18 [.ref x_scr, .ref 0, .ref 51, .int (nI (5 * j))] [] w Q := by
  intro k
  induction k with
  | zero =>
    intro j w hk R K hj
    have e1 : w.2.2.1 = L := by rw [R.1]
    have hc : Int32.ofNat L - 5 < nI (5 * j) := by
      rw [Int32.lt_iff_toInt_lt, x_lenL hL, nI_toInt (by omega)]
      omega
    simp only [q155_18, q155_19, q155_20, q155_21, q155_22, q155_23, q155_829, q155_830, e1, if_pos hc, o_01, or_true, true_and]
    exact K w
  | succ k ih =>
    intro j w hk R K hj
    have e1 : w.2.2.1 = L := by rw [R.1]
    have e2 : w.2.2.2 = sc := by rw [R.1]
    by_cases hc : Int32.ofNat L - 5 < nI (5 * j)
    · simp only [q155_18, q155_19, q155_20, q155_21, q155_22, q155_23, q155_829, q155_830, e1, if_pos hc, o_01, or_true, true_and]
      exact K w
    · have hc2 : 5 * j + 5 ≤ L := by
        rw [Int32.lt_iff_toInt_lt, x_lenL hL, nI_toInt (by omega)] at hc
        omega
      have n0 : ¬ nI (5 * j) < 0 := nI_pos (by omega)
      have m0 : (nI (5 * j)).toNatClampNeg = 5 * j := nI_clamp (by omega)
      have l0 : 5 * j < L := by omega
      have G : ∀ w2, REL L sc w2 → Wp 155 b 823 [.ref x_scr, .ref 0, .ref 51, .int (nI (5 * j))] [] w2 Q := by
        intro w2 R2
        have a5 : nI (5 * j) + 5 = nI (5 * (j + 1)) := nI_add _ 5
        simp only [q155_823, q155_826, a5]
        exact ih (j + 1) w2 (by omega) R2 K (by omega)
      rw [q155_18]
      simp only [q155_19, q155_20, q155_21, q155_22, q155_23, q155_26, q155_27, q155_28, q155_29, q155_31, x_in, e1, e2, if_neg hc, n0, m0, l0, not_false_eq_true, true_and, and_true]
      generalize sc (5 * j) &&& 31 = v
      rcases x_24 v with h | ⟨i, hi, rfl⟩
      · rw [q155_32_d h]
        exact G w R
      · rcases (show i = 0 ∨ i = 1 ∨ i = 2 ∨ i = 3 ∨ i = 4 ∨ i = 5 ∨ i = 6 ∨ i = 7 ∨ i = 8 ∨ i = 9 ∨ i = 10 ∨ i = 11 ∨ i = 12 ∨ i = 13 ∨ i = 14 ∨ i = 15 ∨ i = 16 ∨ i = 17 ∨ i = 18 ∨ i = 19 ∨ i = 20 ∨ i = 21 ∨ i = 22 ∨ i = 23 by omega) with rfl | rfl | rfl | rfl | rfl | rfl | rfl | rfl | rfl | rfl | rfl | rfl | rfl | rfl | rfl | rfl | rfl | rfl | rfl | rfl | rfl | rfl | rfl | rfl
        · exact q155_32_c0.mpr (law_0 R hc2 hL G)
        · exact q155_32_c1.mpr (law_1 R hc2 hL G)
        · exact q155_32_c2.mpr (law_2 R hc2 hL G)
        · exact q155_32_c3.mpr (law_3 R hc2 hL G)
        · exact q155_32_c4.mpr (law_4 R hc2 hL G)
        · exact q155_32_c5.mpr (law_5 R hc2 hL G)
        · exact q155_32_c6.mpr (law_6 R hc2 hL G)
        · exact q155_32_c7.mpr (law_7 R hc2 hL G)
        · exact q155_32_c8.mpr (law_8 R hc2 hL G)
        · exact q155_32_c9.mpr (law_9 R hc2 hL G)
        · exact q155_32_c10.mpr (law_10 R hc2 hL G)
        · exact q155_32_c11.mpr (law_11 R hc2 hL G)
        · exact q155_32_c12.mpr (law_12 R hc2 hL G)
        · exact q155_32_c13.mpr (law_13 R hc2 hL G)
        · exact q155_32_c14.mpr (law_14 R hc2 hL G)
        · exact q155_32_c15.mpr (law_15 R hc2 hL G)
        · exact q155_32_c16.mpr (law_16 R hc2 hL G)
        · exact q155_32_c17.mpr (law_17 R hc2 hL G)
        · exact q155_32_c18.mpr (law_18 R hc2 hL G)
        · exact q155_32_c19.mpr (law_19 R hc2 hL G)
        · exact q155_32_c20.mpr (law_20 R hc2 hL G)
        · exact q155_32_c21.mpr (law_21 R hc2 hL G)
        · exact q155_32_c22.mpr (law_22 R hc2 hL G)
        · exact q155_32_c23.mpr (law_23 R hc2 hL G)
end LW
