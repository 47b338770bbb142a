/-! The law's own loop -/
theorem nI_x {x : Int32} (h0 : 0 ≤ x.toInt) (h1 : x.toInt ≤ 1000) : x = nI x.toInt.toNat := by
  refine Int32.toInt_inj.mp ?_
  rw [nI_toInt (by omega)]
  omega
/-- a remainder by a count of rows -/
theorem rr {z : Int32} {n : Nat} (hz : 0 ≤ z.toInt) (hn : 1 ≤ n ∧ n ≤ 1000) : ∃ i, i < n ∧ z - z / nI n * nI n = nI i := by
  have t : (nI n).toInt = (n : Int) := nI_toInt (by omega)
  have h := (qr_Z hz (y := nI n) (by omega)).2
  have h2 := Int.emod_nonneg z.toInt (show (nI n).toInt ≠ 0 by omega)
  have h3 := Int.emod_lt_of_pos z.toInt (show 0 < (nI n).toInt by omega)
  refine ⟨(z - z / nI n * nI n).toInt.toNat, by omega, nI_x (by omega) (by omega)⟩
theorem and_lt {x y : Int32} (h : x.toBitVec.toNat ≤ 31) : 0 ≤ (x &&& y).toInt ∧ (x &&& y).toInt ≤ 31 := by
  have h1 : (x &&& y).toBitVec.toNat ≤ 31 := by
    rw [Int32.toBitVec_and, BitVec.toNat_and]
    exact Nat.le_trans Nat.and_le_left h
  have e : (x &&& y).toInt = (x &&& y).toBitVec.toInt := rfl
  rw [e, BitVec.toInt_eq_toNat_of_lt (by omega)]
  omega
theorem mk_a : ∀ a, a < 32 → nI a &&& (31 &&& (nI a ^^^ (-1))) = 0 ∧ (31 &&& (nI a ^^^ (-1))).toBitVec.toNat ≤ 31 := by decide +kernel
theorem mk_r {a : Nat} (ha : a < 32) (y : Int32) : nI a &&& (31 &&& (nI a ^^^ (-1)) &&& y) = 0 ∧ (¬ 31 &&& (nI a ^^^ (-1)) &&& y = 0 → 1 ≤ 31 &&& (nI a ^^^ (-1)) &&& y ∧ 31 &&& (nI a ^^^ (-1)) &&& y ≤ 31) := by
  obtain ⟨h1, h2⟩ := mk_a a ha
  refine ⟨by rw [← Int32.and_assoc, h1, Int32.zero_and], fun h => ?_⟩
  have h3 := and_lt (y := y) h2
  generalize 31 &&& (nI a ^^^ (-1)) &&& y = r at h h3 ⊢
  have h4 : r.toInt ≠ 0 := fun q => h (Int32.toInt_inj.mp q)
  rw [Int32.le_iff_toInt_le, Int32.le_iff_toInt_le, show (1 : Int32).toInt = 1 from rfl, show (31 : Int32).toInt = 31 from rfl]
  omega
theorem x_04c (y : Int32) (h : 0 ≤ y.toInt) : y - y / 6 * 6 = 0 ∨ y - y / 6 * 6 = 1 ∨ y - y / 6 * 6 = 2 ∨ y - y / 6 * 6 = 3 ∨ ((y - y / 6 * 6).toInt < 0 ∨ 3 < (y - y / 6 * 6).toInt) := by
  generalize y - y / 6 * 6 = m
  have e : ∀ z : Int32, m.toInt = z.toInt → m = z := fun z h => Int32.toInt_inj.mp h
  rcases (show m.toInt = 0 ∨ m.toInt = 1 ∨ m.toInt = 2 ∨ m.toInt = 3 ∨ (m.toInt < 0 ∨ 3 < m.toInt) by omega) with h | h | h | h | h
  · exact Or.inl (e 0 h)
  · exact Or.inr (Or.inl (e 1 h))
  · exact Or.inr (Or.inr (Or.inl (e 2 h)))
  · exact Or.inr (Or.inr (Or.inr (Or.inl (e 3 h))))
  · exact Or.inr (Or.inr (Or.inr (Or.inr h)))
section LW
variable {b U : Nat} {w0 w : xW} {d : DD} {k ks : Nat} {H : Nat → DD} {Q : Option Value → xW → Prop} {x3 x4 x5 x6 : Int32} {x8 x9 x10 x11 x12 x13 : Value}
/-- how many states there are, behind a step -/
theorem re_5 {d : DD} {k k2 : Nat} {H H2 : Nat → DD} (r : reC d k H k2 H2) (h : k = 5) : k2 = 5 := by
  rw [r.1, if_pos h]
theorem t155e (I : sI 0 w0 w d k H U) (hs : ks ≤ 5) (hk : ks = 5 → k = 5) (K : ∀ w2, sI 0 w0 w2 d k H U → Wp 155 b 40 [.ref x_scr, .ref 0, .int 1, .int (x3 + 1), .int x4, .int x5, .int x6, .int (nI ks), x8, x9, x10, x11, x12, x13] [] w2 Q) : Wp 155 b 385 [.ref x_scr, .ref 0, .int 1, .int x3, .int x4, .int x5, .int x6, .int (nI ks), x8, x9, x10, x11, x12, x13] [] w Q := by
  have z1 : ¬ (1 : Int32) = 0 := by decide
  have e11 : cnA d k 0 U 11 = nI k := cn_a (z := 11) (by omega)
  simp only [q155_385, q155_386, q155_389, q155_390, if_neg z1]
  refine i93 I (fun w I => ?_)
  simp only [rl_some, q155_393, q155_396, q155_397, q155_399, if_neg z1]
  refine i66 I (fun w I => ?_)
  simp only [rl_some, e11, q155_402, q155_404, q155_405]
  have hk5 : k ≤ 5 := I.2.1.2.1
  by_cases c : (5 : Int32) ≤ nI ks
  · rw [if_pos c]
    have c2 : ks = 5 := by
      rw [show (5 : Int32) = nI 5 from rfl, nI_le' (by omega) (by omega)] at c
      omega
    have c3 : ¬ nI k < 5 := by
      rw [hk c2]
      decide
    simp only [q155_412, q155_413, q155_416, q155_417, q155_421, q155_422, q155_425, if_neg c3]
    exact K w I
  · rw [if_neg c]
    have c3 : ¬ nI k < 0 := nI_pos (by omega)
    simp only [q155_408, q155_409, q155_413, q155_416, q155_417, q155_421, q155_422, q155_425, if_neg c3]
    exact K w I
/-- addRow -/
theorem t155a (hz : 0 ≤ x5.toInt) (I : sI 0 w0 w d k H U) (K : ∀ w2 d2 k2 H2 (y8 y9 y10 : Int32), sI 0 w0 w2 d2 k2 H2 U → (k = 5 → k2 = 5) → Wp 155 b 385 [.ref x_scr, .ref 0, .int 1, .int x3, .int x4, .int x5, .int (nI (dn d)), .int (nI ks), .int y8, .int y9, .int y10, x11, x12, x13] [] w2 Q) {x2 : Int32} : Wp 155 b 116 [.ref x_scr, .ref 0, .int x2, .int x3, .int x4, .int x5, .int (nI (dn d)), .int (nI ks), x8, x9, x10, x11, x12, x13] [] w Q := by
  have hn := I.2.1.n
  have z31 : ¬ (31 : Int32) = 0 := by decide
  have z32' : ¬ (32 : Int32) = 0 := by decide
  have e3 : cnA d k 0 U 3 = nI (dn d) := cn_a (z := 3) (by omega)
  obtain ⟨i, hi, ei⟩ := rr (z := x5) (n := 31) hz (by omega)
  have ei' : x5 - x5 / 31 * 31 = nI i := ei
  have el : 1 + nI i = nI (i + 1) := by
    rw [show (1 : Int32) = nI 1 from rfl, nI_add, Nat.add_comm]
  have hl : 1 ≤ nI (i + 1) ∧ nI (i + 1) ≤ 31 := by
    rw [show (1 : Int32) = nI 1 from rfl, show (31 : Int32) = nI 31 from rfl, nI_le' (by omega) (by omega), nI_le' (by omega) (by omega)]
    omega
  obtain ⟨m1, m2⟩ := mk_r (a := i + 1) (by omega) (x5 / 32)
  simp only [q155_116, q155_117, q155_119, q155_121, q155_122, q155_123, q155_125, q155_127, q155_129, q155_130, q155_131, q155_132, q155_134, q155_136, q155_137, q155_138, q155_140, q155_141, q155_143, q155_145, z31, z32', not_false_eq_true, true_and, ei', el]
  generalize 31 &&& (nI (i + 1) ^^^ (-1)) &&& x5 / 32 = r at m1 m2 ⊢
  have okr : ¬ r = 0 → okA (nI (i + 1)) r := fun h => ⟨hl, m2 h, m1⟩
  have r0 : okA (nI (i + 1)) r → ¬ r = 0 := fun h q => by
    have := h.2.1.1
    rw [q] at this
    exact absurd this (by decide)
  refine b59 I (fun h w I => ?_) (fun h _ w I => ?_) (fun h _ w I => ?_) (fun w2 k2 H2 h hn2 I2 re => ?_)
  · have c : r = 0 := Classical.byContradiction (fun q => h (okr q))
    simp only [rl_some, q155_148, q155_150, q155_152, if_neg (i32_n c), q155_155, q155_157, q155_159, q155_162, q155_163, if_neg (i32_n (x := -2000000001) rfl), q155_210, q155_211]
    exact K w d k H _ _ _ I (fun q => q)
  · have neg : (-2000000002 : Int32) < 0 := by decide
    simp only [rl_some, q155_148, q155_150, q155_152, if_pos (r0 h), q155_170, q155_172, if_pos neg, q155_195, q155_196, q155_197]
    refine i66 I (fun w I => ?_)
    simp only [rl_some, e3, q155_200, q155_202, q155_205, q155_206, if_neg (i32_n (x := nI (dn d)) rfl), q155_210, q155_211]
    exact K w d k H _ _ _ I (fun q => q)
  · have neg : (-2000000003 : Int32) < 0 := by decide
    simp only [rl_some, q155_148, q155_150, q155_152, if_pos (r0 h), q155_170, q155_172, if_pos neg, q155_195, q155_196, q155_197]
    refine i66 I (fun w I => ?_)
    simp only [rl_some, e3, q155_200, q155_202, q155_205, q155_206, if_neg (i32_n (x := nI (dn d)) rfl), q155_210, q155_211]
    exact K w d k H _ _ _ I (fun q => q)
  · have pos : ¬ nI (dn d) < 0 := nI_pos (by omega)
    have e3' : cnA (apD d (nI (i + 1)) r) k2 0 U 3 = nI (dn d + 1) := cn_a (z := 3) (by omega)
    simp only [rl_some, q155_148, q155_150, q155_152, if_pos (r0 h), q155_170, q155_172, q155_175, q155_176, q155_177, if_neg pos]
    refine i66 I2 (fun w I => ?_)
    simp only [rl_some, e3', q155_180, q155_182, q155_183, q155_184, q155_187, q155_188, nI_1, if_neg (i32_n (x := nI (dn d + 1)) rfl), q155_210, q155_211]
    exact K w _ k2 H2 _ _ _ I (fun q => re_5 re q)
/-- set -/
theorem t155b (hz : 0 ≤ x5.toInt) (c10 : x10.category = 1) (I : sI 0 w0 w d k H U) (K : ∀ w2 d2 k2 H2 U2 (y11 : Int32), sI 0 w0 w2 d2 k2 H2 U2 → (k = 5 → k2 = 5) → Wp 155 b 385 [.ref x_scr, .ref 0, .int 1, .int x3, .int x4, .int x5, .int (nI (dn d)), .int (nI ks), x8, x9, x10, .int y11, x12, x13] [] w2 Q) {x2 : Int32} : Wp 155 b 214 [.ref x_scr, .ref 0, .int x2, .int x3, .int x4, .int x5, .int (nI (dn d)), .int (nI ks), x8, x9, x10, x11, x12, x13] [] w Q := by
  have z2 : ¬ (2 : Int32) = 0 := by decide
  have e1 : cnA d k 0 U 1 = dp d := cn_a (z := 1) (by omega)
  have g1 : geD d 1 = dp d := rfl
  have h2 := (qr_Z hz (y := 2) (by decide)).2
  rw [show (2 : Int32).toInt = 2 from rfl] at h2
  simp only [q155_214, q155_215, q155_216]
  refine i66 I (fun w I => ?_)
  simp only [rl_some, e1, q155_219 c10, q155_221, q155_222, q155_223, q155_225, q155_226, q155_227, z2, not_false_eq_true, true_and]
  generalize x5 - x5 / 2 * 2 = m at h2 ⊢
  have hm : 0 ≤ m ∧ m ≤ 1 := by
    rw [Int32.le_iff_toInt_le, Int32.le_iff_toInt_le, show (0 : Int32).toInt = 0 from rfl, show (1 : Int32).toInt = 1 from rfl]
    omega
  refine b58 I (Or.inr (Or.inl ⟨rfl, hm⟩)) (fun w2 k2 H2 U2 I2 re => ?_)
  simp only [rl_some, g1, q155_230, q155_232, q155_235, q155_236, if_neg (i32_n (x := dp d) rfl), q155_240, q155_241]
  exact K w2 _ k2 H2 U2 _ I2 (fun q => re_5 re q)
/-- dropReading -/
theorem t155c (hz : 0 ≤ x5.toInt) (I : sI 0 w0 w d k H U) (K : ∀ w2 d2 k2 H2, sI 0 w0 w2 d2 k2 H2 U → (k = 5 → k2 = 5) → Wp 155 b 385 [.ref x_scr, .ref 0, .int 1, .int x3, .int x4, .int x5, .int (nI (dn d)), .int (nI ks), x8, x9, x10, x11, x12, x13] [] w2 Q) {x2 : Int32} : Wp 155 b 244 [.ref x_scr, .ref 0, .int x2, .int x3, .int x4, .int x5, .int (nI (dn d)), .int (nI ks), x8, x9, x10, x11, x12, x13] [] w Q := by
  have hn := I.2.1.n
  by_cases c0 : dn d = 0
  · have c : nI (dn d) = 0 := by rw [c0]; rfl
    simp only [q155_244, q155_246, if_pos c, q155_285, q155_286, q155_290, q155_291]
    exact K w d k H I (fun q => q)
  · have c : ¬ nI (dn d) = 0 := by
      rw [show (0 : Int32) = nI 0 from rfl, nI_eq' (by omega) (by omega)]
      exact c0
    obtain ⟨i, hi, ei⟩ := rr (z := x5) (n := dn d) hz (by omega)
    have e2 : rwA d U (nI i) 2 = dt d i := rw_a hn hi (z := 2) (by omega)
    obtain ⟨t1, t2⟩ := I.2.1.t hi
    simp only [q155_244, q155_246, q155_249, q155_250, q155_252, q155_254, q155_255, q155_256, if_neg c, c, not_false_eq_true, true_and, ei]
    refine i63 I (fun w I => ?_)
    simp only [rl_some, e2]
    by_cases ct : tkF (dt d) i = 0
    · have ct2 : dt d i = 0 := by rw [t1, ct]; rfl
      simp only [q155_259, if_pos ct2, q155_285, q155_286, q155_290, q155_291]
      exact K w d k H I (fun q => q)
    · obtain ⟨t, et⟩ : ∃ t, tkF (dt d) i = t + 1 := ⟨tkF (dt d) i - 1, by omega⟩
      have ct2 : ¬ dt d i = 0 := by
        rw [t1, show (0 : Int32) = nI 0 from rfl, nI_eq' (by omega) (by omega)]
        exact ct
      simp only [q155_259, q155_262, q155_263, q155_265, q155_267, q155_268, q155_269, if_neg ct2, c, not_false_eq_true, true_and, ei]
      refine b62 I hi et (fun w d2 k2 H2 I hd2 ht2 re => ?_)
      have e3 : rwA d2 U (nI i) 2 = nI t := (rw_a (by omega) (show i < dn d2 by omega) (z := 2) (by omega)).trans ht2
      simp only [rl_some, q155_272, q155_273, q155_275, q155_277, q155_278, q155_279, c, not_false_eq_true, true_and, ei]
      refine i63 I (fun w I => ?_)
      simp only [rl_some, e3, q155_282, q155_285, q155_286, if_neg (i32_n (x := nI t) rfl), q155_290, q155_291]
      exact K w d2 k2 H2 I (fun q => re_5 re q)
end LW
