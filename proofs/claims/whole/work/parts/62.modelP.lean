theorem t_fa_fa {m : xM} {f g : Nat → Int32} : (m.s_fa f).s_fa g = m.s_fa g := id rfl
theorem t_fa_self {m : xM} : m.s_fa m.fa = m := id rfl
section MRP
variable {b : Nat} {m : xM} {n : Nat} {Q : Option Value → xW → Prop}
theorem isM.fa0 {w : xW} {f : Nat → Int32} (D : isM w (m.s_fa f)) : rd w 51 = oM m ∧ rd w 52 = .inl (0, 112, .inl m.df) ∧ rd w 59 = .inl (0, 5, .inl f) := by
  obtain ⟨h0, h1, -, -, -, -, -, -, h8⟩ := D
  simp only [oM, s_fa_df, s_fa_wf, s_fa_st, s_fa_af, s_fa_cf, s_fa_ty, s_fa_pa, s_fa_le, s_fa_ri, s_fa_re, s_fa_rs, s_fa_nf, s_fa_wr, s_fa_wd, s_fa_mf, s_fa_vf, s_fa_be, s_fa_fa, s_fa_up, s_fa_dn] at h0 h1 h8
  exact ⟨h0, h1, h8⟩
theorem isM.fa1 {w : xW} {f g : Nat → Int32} (D : isM w (m.s_fa f)) : isM (wr w 59 (.inl (0, 5, .inl g))) (m.s_fa g) := by
  have := D.s59 (f := g)
  rw [t_fa_fa] at this
  exact this
/-- whether a set holds a mass that is as far as this -/
def tcN (x : Int32) (s : Nat) (f : Nat → Int32) (j : Nat) : Bool := decide (x >>> (nI j &&& 31) &&& 1 = 1) && decide (f j = nI s)
theorem l137t {w : xW} {f : Nat → Int32} {x : Int32} {s j : Nat} (D : isM w (m.s_fa f)) (hs : s ≤ 1000) : ∀ (k i : Nat) (t : Bool), i + k = 5 → (Wp 137 b 88 [.ref 51, .int (nI s), .int (nI j), .int x, .int (bI (t = true)), .int (nI i)] [] w Q ↔ Wp 137 b 133 [.ref 51, .int (nI s), .int (nI j), .int x, .int (bI ((t || anyN (tcN x s f) k i) = true)), .int (nI 5)] [] w Q) := by
  obtain ⟨h0, h1, h8⟩ := D.fa0
  intro k
  induction k with
  | zero =>
    intro i t hi
    have e : i = 5 := by omega
    subst e
    have hc : (5 : Int32) ≤ nI 5 := by decide
    simp only [q137_88, q137_90, q137_91, gF0, gF1, gF2, gF3, gF4, gF5, gF6, gF7, gF8, gF9, gF10, gF11, gF12, gF13, gF14, gF15, gF16, gF17, gF18, gF19, pF0, pF1, pF2, pF3, pF4, pF5, pF6, pF7, pF8, pF9, pF10, pF11, pF12, pF13, pF14, pF15, pF16, pF17, pF18, pF19, aI_mk, aL_mk, aA_mk, sI_mk, sL_mk, sA_mk, isO_mk, rl_some, rl_none, true_and, and_true, true_or, or_true, wr_1, if_pos hc]
    rw [show (t || anyN (tcN x s f) 0 5) = t from Bool.or_false t]
  | succ k ih =>
    intro i t hi
    have hc : ¬ (5 : Int32) ≤ nI i := by rw [show (5 : Int32) = nI 5 from rfl, nI_le' (by omega) (by omega)]; omega
    have hx : x_pl (nI i) 5 := x_pl_nI (by omega) (by omega)
    have hcl : (nI i).toNatClampNeg = i := cl_nI (by omega)
    have z1 : ¬ (1 : Int32) = 0 := by decide
    have e1 : (t || anyN (tcN x s f) (k + 1) i) = ((t || tcN x s f i) || anyN (tcN x s f) k (i + 1)) := (Bool.or_assoc _ _ _).symm
    rw [e1, ← ih (i + 1) (t || tcN x s f i) (by omega)]
    cases t with
    | true =>
      rw [bI_t rfl, Bool.true_or, bI_t rfl]
      rw [q137_88]
      simp only [q137_90, q137_91, q137_94, q137_96, q137_99, q137_100, q137_102, q137_103, q137_104, q137_105, q137_106, q137_109, q137_110, q137_113, q137_115, q137_116, q137_117, q137_120, q137_121, q137_124, q137_125, q137_127, q137_130, gF0, gF1, gF2, gF3, gF4, gF5, gF6, gF7, gF8, gF9, gF10, gF11, gF12, gF13, gF14, gF15, gF16, gF17, gF18, gF19, pF0, pF1, pF2, pF3, pF4, pF5, pF6, pF7, pF8, pF9, pF10, pF11, pF12, pF13, pF14, pF15, pF16, pF17, pF18, pF19, aI_mk, aL_mk, aA_mk, sI_mk, sL_mk, sA_mk, isO_mk, rl_some, rl_none, true_and, and_true, true_or, or_true, wr_1, if_neg hc, z1, not_false_eq_true, if_true, nI_1]
    | false =>
      rw [bI_f (by decide), Bool.false_or]
      unfold tcN
      by_cases c1 : x >>> (nI i &&& 31) &&& 1 = 1
      · by_cases c2 : f i = nI s
        · rw [decide_eq_true c1, decide_eq_true c2, Bool.and_true, bI_t rfl]
          rw [q137_88]
          simp only [q137_90, q137_91, q137_94, q137_96, q137_99, q137_100, q137_102, q137_103, q137_104, q137_105, q137_106, q137_109, q137_110, q137_113, q137_115, q137_116, q137_117, q137_120, q137_121, q137_124, q137_125, q137_127, q137_130, gF0, gF1, gF2, gF3, gF4, gF5, gF6, gF7, gF8, gF9, gF10, gF11, gF12, gF13, gF14, gF15, gF16, gF17, gF18, gF19, pF0, pF1, pF2, pF3, pF4, pF5, pF6, pF7, pF8, pF9, pF10, pF11, pF12, pF13, pF14, pF15, pF16, pF17, pF18, pF19, aI_mk, aL_mk, aA_mk, sI_mk, sL_mk, sA_mk, isO_mk, rl_some, rl_none, true_and, and_true, true_or, or_true, wr_1, if_neg hc, c1, c2, not_true, if_false, h0, oM, h8, hx, hcl, nI_1]
        · rw [decide_eq_true c1, decide_eq_false c2, bI_f (by decide)]
          rw [q137_88]
          simp only [q137_90, q137_91, q137_94, q137_96, q137_99, q137_100, q137_102, q137_103, q137_104, q137_105, q137_106, q137_109, q137_110, q137_113, q137_115, q137_116, q137_117, q137_120, q137_121, q137_124, q137_125, q137_127, q137_130, gF0, gF1, gF2, gF3, gF4, gF5, gF6, gF7, gF8, gF9, gF10, gF11, gF12, gF13, gF14, gF15, gF16, gF17, gF18, gF19, pF0, pF1, pF2, pF3, pF4, pF5, pF6, pF7, pF8, pF9, pF10, pF11, pF12, pF13, pF14, pF15, pF16, pF17, pF18, pF19, aI_mk, aL_mk, aA_mk, sI_mk, sL_mk, sA_mk, isO_mk, rl_some, rl_none, true_and, and_true, true_or, or_true, wr_1, if_neg hc, c1, c2, not_true, not_false_eq_true, if_true, if_false, h0, oM, h8, hx, hcl, nI_1]
      · rw [decide_eq_false c1, Bool.false_and, bI_f (by decide)]
        rw [q137_88]
        simp only [q137_90, q137_91, q137_94, q137_96, q137_99, q137_100, q137_102, q137_103, q137_104, q137_105, q137_106, q137_109, q137_110, q137_113, q137_115, q137_116, q137_117, q137_120, q137_121, q137_124, q137_125, q137_127, q137_130, gF0, gF1, gF2, gF3, gF4, gF5, gF6, gF7, gF8, gF9, gF10, gF11, gF12, gF13, gF14, gF15, gF16, gF17, gF18, gF19, pF0, pF1, pF2, pF3, pF4, pF5, pF6, pF7, pF8, pF9, pF10, pF11, pF12, pF13, pF14, pF15, pF16, pF17, pF18, pF19, aI_mk, aL_mk, aA_mk, sI_mk, sL_mk, sA_mk, isO_mk, rl_some, rl_none, true_and, and_true, true_or, or_true, wr_1, if_neg hc, c1, not_true, not_false_eq_true, if_true, if_false, nI_1]
theorem l137s {x : Int32} {s j : Nat} : ∀ (k i : Nat) (w : xW) (f : Nat → Int32), i + k = 5 → isM w (m.s_fa f) → (∀ w2 f2, fr w w2 51 60 → isM w2 (m.s_fa f2) → (∀ z, f2 z = if (i ≤ z ∧ z < 5) ∧ x >>> (nI z &&& 31) &&& 1 = 1 ∧ f z = -1 then nI (s + 1) else f z) → Wp 137 b 194 [.ref 51, .int (nI s), .int (nI j), .int x, .int 1, .int (nI 5)] [] w2 Q) → Wp 137 b 136 [.ref 51, .int (nI s), .int (nI j), .int x, .int 1, .int (nI i)] [] w Q := by
  have z1 : ¬ (1 : Int32) = 0 := by decide
  intro k
  induction k with
  | zero =>
    intro i w f hi D K
    have e : i = 5 := by omega
    subst e
    have hc : (5 : Int32) ≤ nI 5 := by decide
    simp only [q137_136, q137_138, q137_139, gF0, gF1, gF2, gF3, gF4, gF5, gF6, gF7, gF8, gF9, gF10, gF11, gF12, gF13, gF14, gF15, gF16, gF17, gF18, gF19, pF0, pF1, pF2, pF3, pF4, pF5, pF6, pF7, pF8, pF9, pF10, pF11, pF12, pF13, pF14, pF15, pF16, pF17, pF18, pF19, aI_mk, aL_mk, aA_mk, sI_mk, sL_mk, sA_mk, isO_mk, rl_some, rl_none, true_and, and_true, true_or, or_true, wr_1, if_pos hc]
    exact K w f fr.rf D (fun z => by rw [if_neg (fun q => by omega)])
  | succ k ih =>
    intro i w f hi D K
    obtain ⟨h0, h1, h8⟩ := D.fa0
    have hc : ¬ (5 : Int32) ≤ nI i := by rw [show (5 : Int32) = nI 5 from rfl, nI_le' (by omega) (by omega)]; omega
    have hx : x_pl (nI i) 5 := x_pl_nI (by omega) (by omega)
    have hcl : (nI i).toNatClampNeg = i := cl_nI (by omega)
    have G : ∀ y, (y = if x >>> (nI i &&& 31) &&& 1 = 1 ∧ f i = -1 then nI (s + 1) else f i) → Wp 137 b 136 [.ref 51, .int (nI s), .int (nI j), .int x, .int 1, .int (nI (i + 1))] [] (wr w 59 (.inl (0, 5, .inl (upd f i y)))) Q := by
      intro y hy
      refine ih (i + 1) _ _ (by omega) D.fa1 (fun w2 f2 e2 D2 E => K w2 f2 ((fr.wr (by omega) (by omega)).tr e2) D2 (fun z => ?_))
      rw [E z]
      by_cases c : z = i
      · subst c
        rw [if_neg (fun q => by omega), pk_us, hy]
        by_cases d : x >>> (nI z &&& 31) &&& 1 = 1 ∧ f z = -1
        · rw [if_pos d, if_pos ⟨⟨Nat.le_refl _, by omega⟩, d⟩]
        · rw [if_neg d, if_neg (fun q => d q.2)]
      · rw [pk_un c]
        by_cases d : (i + 1 ≤ z ∧ z < 5) ∧ x >>> (nI z &&& 31) &&& 1 = 1 ∧ f z = -1
        · rw [if_pos d, if_pos ⟨⟨by omega, d.1.2⟩, d.2⟩]
        · rw [if_neg d, if_neg (fun q => d ⟨⟨by omega, q.1.2⟩, q.2⟩)]
    by_cases c1 : x >>> (nI i &&& 31) &&& 1 = 1
    · by_cases c2 : f i = -1
      · have R := G (nI (s + 1)) (by rw [if_pos ⟨c1, c2⟩])
        simp only [q137_136]
        simp only [q137_138, q137_139, q137_142, q137_144, q137_147, q137_148, q137_151, q137_153, q137_154, q137_156, q137_157, q137_158, q137_159, q137_160, q137_163, q137_164, q137_167, q137_169, q137_170, q137_171, q137_174, q137_175, q137_176, q137_177, q137_180, q137_181, q137_184, q137_186, q137_187, q137_188, q137_191, gF0, gF1, gF2, gF3, gF4, gF5, gF6, gF7, gF8, gF9, gF10, gF11, gF12, gF13, gF14, gF15, gF16, gF17, gF18, gF19, pF0, pF1, pF2, pF3, pF4, pF5, pF6, pF7, pF8, pF9, pF10, pF11, pF12, pF13, pF14, pF15, pF16, pF17, pF18, pF19, aI_mk, aL_mk, aA_mk, sI_mk, sL_mk, sA_mk, isO_mk, rl_some, rl_none, true_and, and_true, true_or, or_true, wr_1, if_neg hc, z1, c1, c2, not_true, if_false, h0, oM, h8, hx, hcl, nI_1]
        exact R
      · have R := G (f i) (by rw [if_neg (fun q => c2 q.2)])
        simp only [q137_136]
        simp only [q137_138, q137_139, q137_142, q137_144, q137_147, q137_148, q137_151, q137_153, q137_154, q137_156, q137_157, q137_158, q137_159, q137_160, q137_163, q137_164, q137_167, q137_169, q137_170, q137_171, q137_174, q137_175, q137_176, q137_177, q137_180, q137_181, q137_184, q137_186, q137_187, q137_188, q137_191, gF0, gF1, gF2, gF3, gF4, gF5, gF6, gF7, gF8, gF9, gF10, gF11, gF12, gF13, gF14, gF15, gF16, gF17, gF18, gF19, pF0, pF1, pF2, pF3, pF4, pF5, pF6, pF7, pF8, pF9, pF10, pF11, pF12, pF13, pF14, pF15, pF16, pF17, pF18, pF19, aI_mk, aL_mk, aA_mk, sI_mk, sL_mk, sA_mk, isO_mk, rl_some, rl_none, true_and, and_true, true_or, or_true, wr_1, if_neg hc, z1, c1, c2, not_true, not_false_eq_true, if_true, if_false, h0, oM, h8, hx, hcl, nI_1]
        exact R
    · have R := G (f i) (by rw [if_neg (fun q => c1 q.1)])
      simp only [q137_136]
      simp only [q137_138, q137_139, q137_142, q137_144, q137_147, q137_148, q137_151, q137_153, q137_154, q137_156, q137_157, q137_158, q137_159, q137_160, q137_163, q137_164, q137_167, q137_169, q137_170, q137_171, q137_174, q137_175, q137_176, q137_177, q137_180, q137_181, q137_184, q137_186, q137_187, q137_188, q137_191, gF0, gF1, gF2, gF3, gF4, gF5, gF6, gF7, gF8, gF9, gF10, gF11, gF12, gF13, gF14, gF15, gF16, gF17, gF18, gF19, pF0, pF1, pF2, pF3, pF4, pF5, pF6, pF7, pF8, pF9, pF10, pF11, pF12, pF13, pF14, pF15, pF16, pF17, pF18, pF19, aI_mk, aL_mk, aA_mk, sI_mk, sL_mk, sA_mk, isO_mk, rl_some, rl_none, true_and, and_true, true_or, or_true, wr_1, if_neg hc, z1, c1, not_true, not_false_eq_true, if_true, if_false, h0, oM, h8, hx, hcl, nI_1]
      exact R
end MRP
