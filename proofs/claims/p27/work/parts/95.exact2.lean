/-! exact: its first loop -/
section X2
variable {oo b U c ff : Nat} {w0 w : xW} {d : DD} {k : Nat} {H : Nat → DD} {Q : Option Value → xW → Prop} {s p f : Int32}
theorem x95 (I : sI oo w0 w d k H U) (hf : ff ≤ 100) {j : Nat} (hj : j ≤ 100) (hL : w0.2.2.1 ≤ 1000) (K : Q (some (.int (deF w0.2.2 ff j))) w) : Wp 95 b 0 [.ref x_scr, .int (nI ff), .int (nI j)] [] w Q := c95 hf hj (by rw [I.1.1.2.1]; exact hL) (by rw [I.1.1.2.1]; exact K)
theorem exM_0 {v : Nat → Int32} : exM s f v (3 * c) = v (c + 1) - s + f := by
  unfold exM
  rw [if_pos (by omega), show 3 * c / 3 = c by omega]
theorem exM_1 {v : Nat → Int32} : exM s f v (3 * c + 1) = s + v (c + 1) - v (if c = 0 then 2 else 1) + f := by
  unfold exM
  rw [if_neg (by omega), if_pos (by omega), show (3 * c + 1) / 3 = c by omega]
theorem exM_2 {v : Nat → Int32} : exM s f v (3 * c + 2) = s - v (c + 1) + f := by
  unfold exM
  rw [if_neg (by omega), if_neg (by omega), show (3 * c + 2) / 3 = c by omega]
theorem ap_s {n : Nat} {x y : Int32} {len : Nat} {v : Nat → Int32} (E : eqD d (exD s p f v n)) : cnA (apD d x y) k len U 0 = s := (cn_a (d := apD d x y) (z := 0) (by omega)).trans E.s.1
theorem t94c (hc : c < 4) (hf : ff ≤ 100) (hL : w0.2.2.1 ≤ 1000) (B : exB s f (deF w0.2.2 ff)) (I : sI oo w0 w (apD d (exL (3 * c + 1)) (exR (3 * c + 1))) k H U) (E : eqD d (exD s p f (deF w0.2.2 ff) (3 * c + 1))) {q : Nat} (hq : (if c = 0 then 2 else 1) = q) (K : ∀ w2 d2 k2 H2, sI oo w0 w2 d2 k2 H2 U → eqD d2 (exD s p f (deF w0.2.2 ff) (3 * (c + 1))) → Wp 94 b 79 [.ref x_scr, .int (nI ff), .ref oo, .int p, .int f, .int 1, .int (nI (c + 1 + 1))] [] w2 Q) : Wp 94 b 212 [.ref x_scr, .int (nI ff), .ref oo, .int p, .int f, .int 1, .int (nI (c + 1))] [.int (nI q), .int (nI ff), .ref x_scr, .int (s + deF w0.2.2 ff (c + 1)), .int (nI (3 * c + 1)), .ref oo] w Q := by
  have z1 : ¬ (1 : Int32) = 0 := by decide
  obtain ⟨⟨-, -, n2⟩, ⟨-, -, h2⟩, -, -, g2⟩ := ex_num c hc
  have hq2 : q ≤ 2 := by
    rw [← hq]
    split <;> omega
  rw [q94_212]
  refine x95 I hf (by omega) hL ?_
  simp only [rl_some, q94_215, q94_216, q94_218, q94_219]
  refine x61 I E B rfl (by rw [exM_1, hq]) (fun w d2 k H I E => ?_)
  have E' : eqD d2 (exD s p f (deF w0.2.2 ff) (3 * c + 2)) := E
  simp only [rl_some, q94_222, q94_225, q94_226, q94_230, q94_232, q94_234, q94_237, q94_238, q94_239, q94_240, q94_242, q94_243, if_neg (i32_n (x := 0) rfl), if_neg z1]
  refine x59 I E' (by omega) h2 g2 (fun w k H I => ?_)
  simp only [rl_some, q94_246, q94_247, q94_249, q94_250, q94_251, q94_252, q94_255, q94_256, q94_257, q94_259, q94_260, q94_261, q94_262, q94_263, q94_264, n2, if_neg (i32_n (x := nI (3 * c + 2)) rfl)]
  refine i66 I (fun w I => ?_)
  simp only [rl_some, ap_s E', q94_267, q94_268, q94_269, q94_271]
  refine x95 I hf (by omega) hL ?_
  simp only [rl_some, q94_274, q94_275, q94_277, q94_278]
  refine x61 I E' B rfl (by rw [exM_2]) (fun w d3 k H I E => ?_)
  simp only [rl_some, q94_281, q94_284, q94_285, q94_289, q94_291, q94_294, if_neg (i32_n (x := 0) rfl), nI_1]
  exact K w d3 k H I E
theorem t94b (hc : c < 4) (hf : ff ≤ 100) (hL : w0.2.2.1 ≤ 1000) (B : exB s f (deF w0.2.2 ff)) (I : sI oo w0 w d k H U) (E : eqD d (exD s p f (deF w0.2.2 ff) (3 * c + 1))) {x y : Int32} (hx : x = exL (3 * c + 1)) (hy : y = exR (3 * c + 1)) (K : ∀ w2 d2 k2 H2, sI oo w0 w2 d2 k2 H2 U → eqD d2 (exD s p f (deF w0.2.2 ff) (3 * (c + 1))) → Wp 94 b 79 [.ref x_scr, .int (nI ff), .ref oo, .int p, .int f, .int 1, .int (nI (c + 1 + 1))] [] w2 Q) : Wp 94 b 167 [.ref x_scr, .int (nI ff), .ref oo, .int p, .int f, .int 1, .int (nI (c + 1))] [.int y, .int x, .ref oo] w Q := by
  obtain ⟨⟨-, n1, -⟩, -, -⟩ := ex_num c hc
  rw [q94_167]
  refine x59 I E (by omega) hx hy (fun w k H I => ?_)
  simp only [rl_some, q94_170, q94_171, q94_173, q94_174, q94_175, q94_176, q94_179, q94_180, q94_181, q94_183, q94_184, q94_185, q94_186, q94_187, q94_188, n1, if_neg (i32_n (x := nI (3 * c + 1)) rfl)]
  refine i66 I (fun w I => ?_)
  simp only [rl_some, ap_s E, q94_191, q94_192, q94_193, q94_195]
  refine x95 I hf (by omega) hL ?_
  simp only [rl_some, q94_198, q94_199, q94_200, q94_201, q94_203, q94_204]
  by_cases h0 : c = 0
  · have e : nI (c + 1) = 1 := by rw [h0]; rfl
    rw [if_neg (i32_n e)]
    simp only [q94_207, q94_208]
    exact t94c hc hf hL B I E (q := 2) (if_pos h0) K
  · have e : ¬ nI (c + 1) = 1 := by
      rw [show (1 : Int32) = nI 1 from rfl, nI_eq' (by omega) (by omega)]
      omega
    rw [if_pos e]
    simp only [q94_211]
    exact t94c hc hf hL B I E (q := 1) (if_neg h0) K
theorem l94a (hf : ff ≤ 100) (hL : w0.2.2.1 ≤ 1000) (B : exB s f (deF w0.2.2 ff)) (K : ∀ w2 d2 k2 H2 x6, sI oo w0 w2 d2 k2 H2 U → eqD d2 (exD s p f (deF w0.2.2 ff) 12) → Wp 94 b 297 [.ref x_scr, .int (nI ff), .ref oo, .int p, .int f, .int 1, .int x6] [] w2 Q) : ∀ (t c : Nat) (w : xW) (d : DD) (k : Nat) (H : Nat → DD), c + t = 4 → sI oo w0 w d k H U → eqD d (exD s p f (deF w0.2.2 ff) (3 * c)) → Wp 94 b 79 [.ref x_scr, .int (nI ff), .ref oo, .int p, .int f, .int 1, .int (nI (c + 1))] [] w Q := by
  have z1 : ¬ (1 : Int32) = 0 := by decide
  intro t
  induction t with
  | zero =>
    intro c w d k H hc I E
    have e : c = 4 := by omega
    subst e
    have h5 : (5 : Int32) ≤ nI (4 + 1) := by decide
    simp only [q94_79, q94_81, q94_82, if_pos h5]
    exact K w d k H _ I E
  | succ t ih =>
    intro c w d k H hc I E
    have hc4 : c < 4 := by omega
    have h5 : ¬ (5 : Int32) ≤ nI (c + 1) := by rw [show (5 : Int32) = nI 5 from rfl, nI_le' (by omega) (by omega)]; omega
    obtain ⟨⟨n0, -, -⟩, ⟨h0, h1, -⟩, g0, g1, -⟩ := ex_num c hc4
    have KK : ∀ w2 d2 k2 H2, sI oo w0 w2 d2 k2 H2 U → eqD d2 (exD s p f (deF w0.2.2 ff) (3 * (c + 1))) → Wp 94 b 79 [.ref x_scr, .int (nI ff), .ref oo, .int p, .int f, .int 1, .int (nI (c + 1 + 1))] [] w2 Q := fun w2 d2 k2 H2 I2 E2 => ih (c + 1) w2 d2 k2 H2 (by omega) I2 E2
    rw [q94_79]
    simp only [q94_81, q94_82, q94_85, q94_87, q94_90, q94_91, q94_92, q94_94, q94_95, q94_96, if_neg h5, if_neg z1]
    refine x59 I E (by omega) h0 g0 (fun w k H I => ?_)
    simp only [rl_some, q94_99, q94_100, q94_102, q94_103, q94_104, q94_105, q94_108, q94_109, q94_110, q94_112, q94_113, q94_114, q94_115, q94_116, q94_117, q94_119, n0, if_neg (i32_n (x := nI (3 * c)) rfl)]
    refine x95 I hf (by omega) hL ?_
    simp only [rl_some, q94_122, q94_123, q94_124]
    refine i66 I (fun w I => ?_)
    simp only [rl_some, ap_s E, q94_127, q94_128, q94_130, q94_131]
    refine x61 I E B rfl (by rw [exM_0]) (fun w d2 k H I E => ?_)
    simp only [rl_some, q94_134, q94_137, q94_138, q94_142, q94_144, q94_146, q94_149, q94_150, q94_151, q94_152, q94_154, q94_155, q94_156, q94_158, q94_159, if_neg (i32_n (x := 0) rfl), if_neg z1]
    by_cases c0 : c = 0
    · have e : nI (c + 1) = 1 := by rw [c0]; rfl
      rw [if_neg (i32_n e)]
      simp only [q94_162, q94_163]
      rw [if_pos c0] at g1
      exact t94b hc4 hf hL B I E h1 g1 KK
    · have e : ¬ nI (c + 1) = 1 := by
        rw [show (1 : Int32) = nI 1 from rfl, nI_eq' (by omega) (by omega)]
        omega
      rw [if_pos e]
      simp only [q94_166]
      rw [if_neg c0] at g1
      exact t94b hc4 hf hL B I E h1 g1 KK
end X2
