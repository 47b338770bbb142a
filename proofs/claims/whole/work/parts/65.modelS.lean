/-! The chains' far, whole; chain, linked -/
theorem ch5R {d f g : Nat → Int32} {s j : Nat} (h : ∀ z, z < 5 → f z = g z) : ∀ z, z < 5 → chR d s f j z = chR d s g j z := by
  intro z hz
  have e : anyN (tcN (pnN d j) s f) 5 0 = anyN (tcN (pnN d j) s g) 5 0 := anyN_congr 5 0 (fun i _ hi => by
    unfold tcN
    rw [h i (by omega)])
  unfold chR
  rw [e, h z hz]
theorem ch5F {d : Nat → Int32} {s : Nat} : ∀ (k i : Nat) (f g : Nat → Int32), (∀ z, z < 5 → f z = g z) → ∀ z, z < 5 → foldN (chR d s) k i f z = foldN (chR d s) k i g z
  | 0, _, _, _, h => h
  | k + 1, i, _, _, h => ch5F k (i + 1) _ _ (ch5R h)
theorem ch5S {d : Nat → Int32} {n : Nat} : ∀ (k s : Nat) (f g : Nat → Int32), (∀ z, z < 5 → f z = g z) → ∀ z, z < 5 → chS d n k s f z = chS d n k s g z
  | 0, _, _, _, h => h
  | k + 1, s, _, _, h => ch5S k (s + 1) _ _ (ch5F n 0 _ _ h)
/-- how far each mass is -/
def faF (d : Nat → Int32) (n : Nat) : Nat → Int32 := chS d n 4 0 ch0
section MRS
variable {b : Nat} {m : xM} {n : Nat} {Q : Option Value → xW → Prop}
theorem l137a : ∀ (k i : Nat) (w : xW) (f : Nat → Int32), i + k = 5 → isM w (m.s_fa f) → (∀ w2 f2, fr w w2 51 60 → isM w2 (m.s_fa f2) → (∀ z, f2 z = if i ≤ z ∧ z < 5 then ch0 z else f z) → Wp 137 b 28 [.ref 51, .int 5, x_no, x_no, x_no, x_no] [] w2 Q) → Wp 137 b 2 [.ref 51, .int (nI i), x_no, x_no, x_no, x_no] [] w Q := by
  intro k
  induction k with
  | zero =>
    intro i w f hi D K
    have e : i = 5 := by omega
    subst e
    have hc : (5 : Int32) ≤ nI 5 := by decide
    simp only [q137_2, q137_3, q137_4, gF0, gF1, gF2, gF3, gF4, gF5, gF6, gF7, gF8, gF9, gF10, gF11, gF12, gF13, gF14, gF15, gF16, gF17, gF18, gF19, pF0, pF1, pF2, pF3, pF4, pF5, pF6, pF7, pF8, pF9, pF10, pF11, pF12, pF13, pF14, pF15, pF16, pF17, pF18, pF19, aI_mk, aL_mk, aA_mk, sI_mk, sL_mk, sA_mk, isO_mk, rl_some, rl_none, true_and, and_true, true_or, or_true, wr_1, if_pos hc]
    exact K w f fr.rf D (fun z => by rw [if_neg (fun q => by omega)])
  | succ k ih =>
    intro i w f hi D K
    obtain ⟨h0, h1, h8⟩ := D.fa0
    have hc : ¬ (5 : Int32) ≤ nI i := by rw [show (5 : Int32) = nI 5 from rfl, nI_le' (by omega) (by omega)]; omega
    have hx : x_pl (nI i) 5 := x_pl_nI (by omega) (by omega)
    have hcl : (nI i).toNatClampNeg = i := cl_nI (by omega)
    have hz : nI i = 0 ↔ i = 0 := nI_eq' (b := 0) (by omega) (by omega)
    have G : ∀ y, y = ch0 i → Wp 137 b 2 [.ref 51, .int (nI (i + 1)), x_no, x_no, x_no, x_no] [] (wr w 59 (.inl (0, 5, .inl (upd f i y)))) Q := by
      intro y hy
      refine ih (i + 1) _ _ (by omega) D.fa1 (fun w2 f2 e2 D2 E => K w2 f2 ((fr.wr (by omega) (by omega)).tr e2) D2 (fun z => ?_))
      rw [E z]
      by_cases c : z = i
      · subst c
        rw [if_neg (fun q => by omega), pk_us, hy, if_pos ⟨Nat.le_refl _, by omega⟩]
      · rw [pk_un c]
        by_cases d : i + 1 ≤ z ∧ z < 5
        · rw [if_pos d, if_pos (by omega)]
        · rw [if_neg d, if_neg (by omega)]
    by_cases c : i = 0
    · have R := G 0 (by unfold ch0; rw [if_pos c])
      have hz' := hz.mpr c
      rw [q137_2]
      simp only [q137_3, q137_4, q137_7, q137_8, q137_11, q137_12, q137_13, q137_16, q137_17, q137_20, q137_21, q137_22, gF0, gF1, gF2, gF3, gF4, gF5, gF6, gF7, gF8, gF9, gF10, gF11, gF12, gF13, gF14, gF15, gF16, gF17, gF18, gF19, pF0, pF1, pF2, pF3, pF4, pF5, pF6, pF7, pF8, pF9, pF10, pF11, pF12, pF13, pF14, pF15, pF16, pF17, pF18, pF19, aI_mk, aL_mk, aA_mk, sI_mk, sL_mk, sA_mk, isO_mk, rl_some, rl_none, true_and, and_true, true_or, or_true, wr_1, if_neg hc, hz', not_true, if_false, h0, oM, h8]
      rw [hz'] at hx hcl
      simp only [q137_3, q137_4, q137_7, q137_8, q137_11, q137_12, q137_13, q137_16, q137_17, q137_20, q137_21, q137_22, q137_25, gF0, gF1, gF2, gF3, gF4, gF5, gF6, gF7, gF8, gF9, gF10, gF11, gF12, gF13, gF14, gF15, gF16, gF17, gF18, gF19, pF0, pF1, pF2, pF3, pF4, pF5, pF6, pF7, pF8, pF9, pF10, pF11, pF12, pF13, pF14, pF15, pF16, pF17, pF18, pF19, aI_mk, aL_mk, aA_mk, sI_mk, sL_mk, sA_mk, isO_mk, rl_some, rl_none, true_and, and_true, true_or, or_true, wr_1, hx, hcl]
      rw [show (0 : Int32) + 1 = nI (i + 1) by rw [c]; rfl]
      exact R
    · have R := G (-1) (by unfold ch0; rw [if_neg c])
      rw [q137_2]
      simp only [q137_3, q137_4, q137_7, q137_8, q137_11, q137_12, q137_13, q137_16, q137_17, q137_20, q137_21, q137_22, q137_25, gF0, gF1, gF2, gF3, gF4, gF5, gF6, gF7, gF8, gF9, gF10, gF11, gF12, gF13, gF14, gF15, gF16, gF17, gF18, gF19, pF0, pF1, pF2, pF3, pF4, pF5, pF6, pF7, pF8, pF9, pF10, pF11, pF12, pF13, pF14, pF15, pF16, pF17, pF18, pF19, aI_mk, aL_mk, aA_mk, sI_mk, sL_mk, sA_mk, isO_mk, rl_some, rl_none, true_and, and_true, true_or, or_true, wr_1, if_neg hc, hz, c, not_false_eq_true, if_true, h0, oM, h8, hx, hcl, nI_1]
      exact R
theorem c137 {w : xW} (D : isM w m) (v : vM m.df n) (K : ∀ w2 f2, fr w w2 51 60 → isM w2 (m.s_fa f2) → (∀ z, z < 5 → f2 z = faF m.df n z) → Q none w2) : Wp 137 b 0 [.ref 51, x_no, x_no, x_no, x_no, x_no] [] w Q := by
  rw [← t_fa_self (m := m)] at D
  simp only [q137_0, q137_1]
  refine l137a 5 0 w _ (by omega) D (fun w2 f2 e2 D2 E => ?_)
  simp only [q137_28, q137_29]
  refine l137b v 4 0 w2 f2 _ _ _ _ (by omega) D2 (fun w3 e3 D3 => K w3 _ (e2.tr e3) D3 (fun z hz => ch5S 4 0 _ _ (fun y hy => by rw [E y, if_pos (by omega)]) z hz))
theorem c138 {w : xW} {a : Int32} (D : isM w m) (v : vM m.df n) (K0 : ¬ (0 ≤ a ∧ a ≤ 4) → Q (some (.int (-2000000001))) w) (K : ∀ z w2 m2, z < 5 → a = nI z → fr w w2 51 60 → isM w2 m2 → kM m m2 → Q (some (.int (nfF (faF m.df n z)))) w2) : Wp 138 b 0 [.ref 51, .int a] [] w Q := by
  have z1 : ¬ (1 : Int32) = 0 := by decide
  have h0 := D.1
  by_cases c1 : 0 ≤ a ∧ a ≤ 4
  · obtain ⟨z, hz, rfl⟩ : ∃ z, z < 5 ∧ a = nI z := by
      rcases x_04 c1 with rfl | rfl | rfl | rfl | rfl
      · exact ⟨0, by omega, rfl⟩
      · exact ⟨1, by omega, rfl⟩
      · exact ⟨2, by omega, rfl⟩
      · exact ⟨3, by omega, rfl⟩
      · exact ⟨4, by omega, rfl⟩
    simp only [q138_0, q138_1, q138_2, q138_3, q138_6, q138_9, q138_11, q138_12, q138_13, gF0, gF1, gF2, gF3, gF4, gF5, gF6, gF7, gF8, gF9, gF10, gF11, gF12, gF13, gF14, gF15, gF16, gF17, gF18, gF19, pF0, pF1, pF2, pF3, pF4, pF5, pF6, pF7, pF8, pF9, pF10, pF11, pF12, pF13, pF14, pF15, pF16, pF17, pF18, pF19, aI_mk, aL_mk, aA_mk, sI_mk, sL_mk, sA_mk, isO_mk, rl_some, rl_none, true_and, and_true, true_or, or_true, wr_1, c93, bI_t c1, z1, not_false_eq_true, if_true, h0, oM]
    refine c137 D v (fun w2 f2 e2 D2 E => ?_)
    have KK := K z w2 _ hz rfl e2 D2 (kM.fa kM.rf)
    obtain ⟨g0, g1, g8⟩ := D2.fa0
    have hx : x_pl (nI z) 5 := x_pl_nI (by omega) (by omega)
    have hcl : (nI z).toNatClampNeg = z := cl_nI (by omega)
    rw [← E z hz] at KK
    unfold nfF at KK
    by_cases c : f2 z = -1
    · rw [if_pos c] at KK
      simp only [q138_16, q138_17, q138_20, q138_21, q138_22, q138_23, q138_26, q138_28, q138_31, q138_32, q138_35, q138_36, q138_37, gF0, gF1, gF2, gF3, gF4, gF5, gF6, gF7, gF8, gF9, gF10, gF11, gF12, gF13, gF14, gF15, gF16, gF17, gF18, gF19, pF0, pF1, pF2, pF3, pF4, pF5, pF6, pF7, pF8, pF9, pF10, pF11, pF12, pF13, pF14, pF15, pF16, pF17, pF18, pF19, aI_mk, aL_mk, aA_mk, sI_mk, sL_mk, sA_mk, isO_mk, rl_some, rl_none, true_and, and_true, true_or, or_true, wr_1, g0, oM, g8, hx, hcl, c, not_true, if_false]
      exact KK
    · rw [if_neg c] at KK
      simp only [q138_16, q138_17, q138_20, q138_21, q138_22, q138_23, q138_26, q138_28, q138_31, q138_32, q138_35, q138_36, q138_37, gF0, gF1, gF2, gF3, gF4, gF5, gF6, gF7, gF8, gF9, gF10, gF11, gF12, gF13, gF14, gF15, gF16, gF17, gF18, gF19, pF0, pF1, pF2, pF3, pF4, pF5, pF6, pF7, pF8, pF9, pF10, pF11, pF12, pF13, pF14, pF15, pF16, pF17, pF18, pF19, aI_mk, aL_mk, aA_mk, sI_mk, sL_mk, sA_mk, isO_mk, rl_some, rl_none, true_and, and_true, true_or, or_true, wr_1, g0, oM, g8, hx, hcl, c, not_false_eq_true, if_true]
      exact KK
  · have := K0 c1
    simp only [q138_0, q138_1, q138_2, q138_3, q138_6, q138_9, q138_11, gF0, gF1, gF2, gF3, gF4, gF5, gF6, gF7, gF8, gF9, gF10, gF11, gF12, gF13, gF14, gF15, gF16, gF17, gF18, gF19, pF0, pF1, pF2, pF3, pF4, pF5, pF6, pF7, pF8, pF9, pF10, pF11, pF12, pF13, pF14, pF15, pF16, pF17, pF18, pF19, aI_mk, aL_mk, aA_mk, sI_mk, sL_mk, sA_mk, isO_mk, rl_some, rl_none, true_and, and_true, true_or, or_true, wr_1, c93, bI_f c1, not_true, if_false]
    exact this
theorem l126 {w : xW} {f : Nat → Int32} (D : isM w (m.s_fa f)) : ∀ (k i : Nat) (a : Int32), i + k = 5 → (Wp 126 b 8 [.ref 51, .int a, .int (nI i)] [] w Q ↔ Q (some (.int (foldN (fun a z => a + bI (¬ f z = -1)) k i a))) w) := by
  obtain ⟨h0, h1, h8⟩ := D.fa0
  intro k
  induction k with
  | zero =>
    intro i a hi
    have hc : (5 : Int32) ≤ nI i := by rw [show i = 5 by omega]; decide
    simp only [q126_8, q126_9, q126_10, q126_37, q126_38, gF0, gF1, gF2, gF3, gF4, gF5, gF6, gF7, gF8, gF9, gF10, gF11, gF12, gF13, gF14, gF15, gF16, gF17, gF18, gF19, pF0, pF1, pF2, pF3, pF4, pF5, pF6, pF7, pF8, pF9, pF10, pF11, pF12, pF13, pF14, pF15, pF16, pF17, pF18, pF19, aI_mk, aL_mk, aA_mk, sI_mk, sL_mk, sA_mk, isO_mk, rl_some, rl_none, true_and, and_true, true_or, or_true, wr_1, if_pos hc]
    rfl
  | succ k ih =>
    intro i a hi
    have hc : ¬ (5 : Int32) ≤ nI i := by rw [show (5 : Int32) = nI 5 from rfl, nI_le' (by omega) (by omega)]; omega
    have hx : x_pl (nI i) 5 := x_pl_nI (by omega) (by omega)
    have hcl : (nI i).toNatClampNeg = i := cl_nI (by omega)
    show _ ↔ Q (some (.int (foldN (fun a z => a + bI (¬ f z = -1)) k (i + 1) (a + bI (¬ f i = -1))))) w
    rw [← ih (i + 1) _ (by omega), q126_8]
    by_cases c : f i = -1
    · rw [bI_f (not_not_intro c)]
      simp only [q126_9, q126_10, q126_13, q126_14, q126_15, q126_18, q126_19, q126_20, q126_21, q126_24, q126_25, q126_28, q126_29, q126_30, q126_31, q126_34, gF0, gF1, gF2, gF3, gF4, gF5, gF6, gF7, gF8, gF9, gF10, gF11, gF12, gF13, gF14, gF15, gF16, gF17, gF18, gF19, pF0, pF1, pF2, pF3, pF4, pF5, pF6, pF7, pF8, pF9, pF10, pF11, pF12, pF13, pF14, pF15, pF16, pF17, pF18, pF19, aI_mk, aL_mk, aA_mk, sI_mk, sL_mk, sA_mk, isO_mk, rl_some, rl_none, true_and, and_true, true_or, or_true, wr_1, if_neg hc, h0, oM, h8, hx, hcl, c, not_true, if_false, nI_1]
    · rw [bI_t c]
      simp only [q126_9, q126_10, q126_13, q126_14, q126_15, q126_18, q126_19, q126_20, q126_21, q126_24, q126_25, q126_28, q126_29, q126_30, q126_31, q126_34, gF0, gF1, gF2, gF3, gF4, gF5, gF6, gF7, gF8, gF9, gF10, gF11, gF12, gF13, gF14, gF15, gF16, gF17, gF18, gF19, pF0, pF1, pF2, pF3, pF4, pF5, pF6, pF7, pF8, pF9, pF10, pF11, pF12, pF13, pF14, pF15, pF16, pF17, pF18, pF19, aI_mk, aL_mk, aA_mk, sI_mk, sL_mk, sA_mk, isO_mk, rl_some, rl_none, true_and, and_true, true_or, or_true, wr_1, if_neg hc, h0, oM, h8, hx, hcl, c, not_false_eq_true, if_true, nI_1]
theorem c126 {w : xW} (D : isM w m) (v : vM m.df n) (K : ∀ w2 m2, fr w w2 51 60 → isM w2 m2 → kM m m2 → Q (some (.int (foldN (fun a z => a + bI (¬ faF m.df n z = -1)) 5 0 0))) w2) : Wp 126 b 0 [.ref 51, x_no, x_no] [] w Q := by
  have h0 := D.1
  simp only [q126_0, q126_1, gF0, gF1, gF2, gF3, gF4, gF5, gF6, gF7, gF8, gF9, gF10, gF11, gF12, gF13, gF14, gF15, gF16, gF17, gF18, gF19, pF0, pF1, pF2, pF3, pF4, pF5, pF6, pF7, pF8, pF9, pF10, pF11, pF12, pF13, pF14, pF15, pF16, pF17, pF18, pF19, aI_mk, aL_mk, aA_mk, sI_mk, sL_mk, sA_mk, isO_mk, rl_some, rl_none, true_and, and_true, true_or, or_true, wr_1, h0, oM]
  refine c137 D v (fun w2 f2 e2 D2 E => ?_)
  have KK := K w2 _ e2 D2 (kM.fa kM.rf)
  simp only [q126_4, q126_5, q126_6, q126_7, gF0, gF1, gF2, gF3, gF4, gF5, gF6, gF7, gF8, gF9, gF10, gF11, gF12, gF13, gF14, gF15, gF16, gF17, gF18, gF19, pF0, pF1, pF2, pF3, pF4, pF5, pF6, pF7, pF8, pF9, pF10, pF11, pF12, pF13, pF14, pF15, pF16, pF17, pF18, pF19, aI_mk, aL_mk, aA_mk, sI_mk, sL_mk, sA_mk, isO_mk, rl_some, rl_none, true_and, and_true, true_or, or_true, wr_1]
  refine (l126 D2 5 0 0 (by omega)).mpr ?_
  rw [foldN_congr 5 0 0 (g' := fun a z => a + bI (¬ faF m.df n z = -1)) (fun a j _ hj => by rw [E j (by omega)])]
  exact KK
end MRS
