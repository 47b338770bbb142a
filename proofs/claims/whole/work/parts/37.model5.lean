theorem t_nf_nf {m : xM} {f g : Nat → Int64} : (m.s_nf f).s_nf g = m.s_nf g := id rfl
/-- what leaves a reading out -/
def ouF (m : xM) (r k : Nat) : Bool := decide (nI r = m.wr ∧ (m.wd = -1 ∨ m.wd = nI k))
/-- the equations, the readings of a row added one by one -/
def hN (o : Nat → Nat → Bool) (lf rf : Nat → Int32) (i p q : Nat) (acc : Int64) (k : Nat) : Int64 := if o i k = true then acc else acc + (fcF lf rf i (nI p) * fcF lf rf i (nI q)).toInt64
def hS (s : Int32) (o : Nat → Nat → Bool) (lf rf mf : Nat → Int32) (i p : Nat) (acc : Int64) (k : Nat) : Int64 := if o i k = true then acc else acc + (fcF lf rf i (nI p)).toInt64 * ((mf (6 * i + k)).toInt64 - (sgF lf rf i 0).toInt64 * s.toInt64)
theorem ix5 {a c : Nat} (ha : a < 5) (hc : c < 5) : (5 : Int32) * nI a + nI c = nI (5 * a + c) ∧ x_pl (nI (5 * a + c)) 30 ∧ (nI (5 * a + c)).toNatClampNeg = 5 * a + c := by
  refine ⟨?_, x_pl_nI (by omega) (by omega), cl_nI (by omega)⟩
  rw [show (5 : Int32) = nI 5 from rfl, pk_mul, nI_add]
theorem ix25 {a : Nat} (ha : a < 5) : (25 : Int32) + nI a = nI (25 + a) ∧ x_pl (nI (25 + a)) 30 ∧ (nI (25 + a)).toNatClampNeg = 25 + a := ix (a := 25) (by omega) (by omega)
section MR5
variable {b : Nat} {m : xM} {n U : Nat} {Q : Option Value → xW → Prop}
theorem isM.nf0 {w : xW} {f : Nat → Int64} (D : isM w (m.s_nf f)) : rd w 51 = oM m ∧ rd w 52 = .inl (0, 112, .inl m.df) ∧ rd w 56 = .inl (1, 30, .inr (.inl f)) := by
  obtain ⟨h0, h1, -, -, -, h5, -⟩ := D
  simp only [oM, s_nf_df, s_nf_wf, s_nf_st, s_nf_af, s_nf_cf, s_nf_ty, s_nf_pa, s_nf_le, s_nf_ri, s_nf_re, s_nf_rs, s_nf_nf, s_nf_wr, s_nf_wd, s_nf_mf, s_nf_vf, s_nf_be, s_nf_fa, s_nf_up, s_nf_dn] at h0 h1 h5
  exact ⟨h0, h1, h5⟩
theorem isM.nf1 {w : xW} {f g : Nat → Int64} (D : isM w (m.s_nf f)) : isM (wr w 56 (.inl (1, 30, .inr (.inl g)))) (m.s_nf g) := by
  have := D.s56 (f := g)
  rw [t_nf_nf] at this
  exact this
theorem l106d (hp : 4 + m.df 1 = nI U) (hU : U ≤ 5) {i kk a : Nat} (hi : i < 12) (ha : a < U) : ∀ (k c : Nat) (w : xW) (f : Nat → Int64), c + k = U → isM w (m.s_nf f) → (∀ w2 f2, fr w w2 51 60 → isM w2 (m.s_nf f2) → (∀ z, f2 z = if 5 * a + c ≤ z ∧ z < 5 * a + U then f z + (fcF (lD m.df) (rD m.df) i (nI a) * fcF (lD m.df) (rD m.df) i (nI (z - 5 * a))).toInt64 else f z) → Wp 106 b 114 [.ref 51, .int (nI i), .int (nI kk), .int (nI a), .int (nI U)] [] w2 Q) → Wp 106 b 70 [.ref 51, .int (nI i), .int (nI kk), .int (nI a), .int (nI c)] [] w Q := by
  intro k
  induction k with
  | zero =>
    intro c w f hk D K
    have hc : nI U ≤ nI c := nI_le (by omega) (by omega)
    obtain ⟨h0, h1, h5⟩ := D.nf0
    simp only [q106_70, q106_72, q106_73, q106_76, gF0, gF1, gF2, gF3, gF4, gF5, gF6, gF7, gF8, gF9, gF10, gF11, gF12, gF13, gF14, gF15, gF16, gF17, gF18, gF19, pF0, pF1, pF2, pF3, pF4, pF5, pF6, pF7, pF8, pF9, pF10, pF11, pF12, pF13, pF14, pF15, pF16, pF17, pF18, pF19, aI_mk, aL_mk, aA_mk, sI_mk, sL_mk, sA_mk, isO_mk, rl_some, rl_none, true_and, and_true, true_or, or_true, wr_1, h0, oM, c102 D, s_nf_df, s_nf_wf, s_nf_st, s_nf_af, s_nf_cf, s_nf_ty, s_nf_pa, s_nf_le, s_nf_ri, s_nf_re, s_nf_rs, s_nf_nf, s_nf_wr, s_nf_wd, s_nf_mf, s_nf_vf, s_nf_be, s_nf_fa, s_nf_up, s_nf_dn, hp, if_pos hc]
    have e : c = U := by omega
    subst e
    exact K w f fr.rf D (fun z => by rw [if_neg (by omega)])
  | succ k ih =>
    intro c w f hk D K
    have hc : ¬ nI U ≤ nI c := by rw [nI_le' (by omega) (by omega)]; omega
    obtain ⟨h0, h1, h5⟩ := D.nf0
    simp only [q106_70]
    simp only [q106_72, q106_73, q106_76, q106_79, q106_80, q106_83, q106_84, q106_85, q106_86, q106_88, q106_89, q106_90, q106_91, q106_92, q106_93, q106_94, q106_97, q106_98, q106_99, q106_101, q106_104, q106_105, q106_106, q106_107, q106_108, q106_111, gF0, gF1, gF2, gF3, gF4, gF5, gF6, gF7, gF8, gF9, gF10, gF11, gF12, gF13, gF14, gF15, gF16, gF17, gF18, gF19, pF0, pF1, pF2, pF3, pF4, pF5, pF6, pF7, pF8, pF9, pF10, pF11, pF12, pF13, pF14, pF15, pF16, pF17, pF18, pF19, aI_mk, aL_mk, aA_mk, sI_mk, sL_mk, sA_mk, isO_mk, rl_some, rl_none, true_and, and_true, true_or, or_true, wr_1, h0, oM, h5, c102 D, c103 D hi (show a < 5 by omega), c103 D hi (show c < 5 by omega), s_nf_df, s_nf_wf, s_nf_st, s_nf_af, s_nf_cf, s_nf_ty, s_nf_pa, s_nf_le, s_nf_ri, s_nf_re, s_nf_rs, s_nf_nf, s_nf_wr, s_nf_wd, s_nf_mf, s_nf_vf, s_nf_be, s_nf_fa, s_nf_up, s_nf_dn, hp, if_neg hc, ix5 (show a < 5 by omega) (show c < 5 by omega), nI_1]
    refine ih (c + 1) _ _ (by omega) D.nf1 (fun w2 f2 e2 D2 E => K w2 f2 ((fr.wr (by omega) (by omega)).tr e2) D2 (fun z => ?_))
    rw [E z]
    by_cases c1 : z = 5 * a + c
    · rw [if_neg (by omega), if_pos (by omega), c1, pk_uLs, show 5 * a + c - 5 * a = c by omega]
    · rw [pk_uLn c1]
      by_cases c2 : 5 * a + (c + 1) ≤ z ∧ z < 5 * a + U
      · rw [if_pos c2, if_pos (by omega)]
      · rw [if_neg c2, if_neg (by omega)]
theorem l106c (hp : 4 + m.df 1 = nI U) (hU : U ≤ 5) {i kk : Nat} (hi : i < 12) (hkk : kk < 6) (ho : ouF m i kk = false) : ∀ (k a : Nat) (w : xW) (f : Nat → Int64) (x4 : Value), a + k = U → isM w (m.s_nf f) → (∀ w2 f2 x4, fr w w2 51 60 → isM w2 (m.s_nf f2) → (∀ p q, p < U → q < U → f2 (5 * p + q) = if a ≤ p then f (5 * p + q) + (fcF (lD m.df) (rD m.df) i (nI p) * fcF (lD m.df) (rD m.df) i (nI q)).toInt64 else f (5 * p + q)) → (∀ p, p < U → f2 (25 + p) = if a ≤ p then f (25 + p) + (fcF (lD m.df) (rD m.df) i (nI p)).toInt64 * ((mD m.df (6 * i + kk)).toInt64 - (sgF (lD m.df) (rD m.df) i 0).toInt64 * (m.df 0).toInt64) else f (25 + p)) → Wp 106 b 146 [.ref 51, .int (nI i), .int (nI kk), .int (nI U), x4] [] w2 Q) → Wp 106 b 50 [.ref 51, .int (nI i), .int (nI kk), .int (nI a), x4] [] w Q := by
  have ho2 : ¬ (nI i = m.wr ∧ (m.wd = -1 ∨ m.wd = nI kk)) := of_decide_eq_false ho
  intro k
  induction k with
  | zero =>
    intro a w f x4 hk D K
    have hc : nI U ≤ nI a := nI_le (by omega) (by omega)
    obtain ⟨h0, h1, h5⟩ := D.nf0
    simp only [q106_50, q106_51, q106_52, q106_55, gF0, gF1, gF2, gF3, gF4, gF5, gF6, gF7, gF8, gF9, gF10, gF11, gF12, gF13, gF14, gF15, gF16, gF17, gF18, gF19, pF0, pF1, pF2, pF3, pF4, pF5, pF6, pF7, pF8, pF9, pF10, pF11, pF12, pF13, pF14, pF15, pF16, pF17, pF18, pF19, aI_mk, aL_mk, aA_mk, sI_mk, sL_mk, sA_mk, isO_mk, rl_some, rl_none, true_and, and_true, true_or, or_true, wr_1, h0, oM, c102 D, s_nf_df, s_nf_wf, s_nf_st, s_nf_af, s_nf_cf, s_nf_ty, s_nf_pa, s_nf_le, s_nf_ri, s_nf_re, s_nf_rs, s_nf_nf, s_nf_wr, s_nf_wd, s_nf_mf, s_nf_vf, s_nf_be, s_nf_fa, s_nf_up, s_nf_dn, hp, if_pos hc]
    have e : a = U := by omega
    subst e
    exact K w f x4 fr.rf D (fun p q h1 h2 => by rw [if_neg (by omega)]) (fun p h1 => by rw [if_neg (by omega)])
  | succ k ih =>
    intro a w f x4 hk D K
    have hc : ¬ nI U ≤ nI a := by rw [nI_le' (by omega) (by omega)]; omega
    obtain ⟨h0, h1, h5⟩ := D.nf0
    have z0 : (0 : Int32) = nI 0 := rfl
    simp only [q106_50]
    simp only [q106_51, q106_52, q106_55, q106_58, q106_59, q106_60, q106_61, q106_64, q106_67, q106_68, gF0, gF1, gF2, gF3, gF4, gF5, gF6, gF7, gF8, gF9, gF10, gF11, gF12, gF13, gF14, gF15, gF16, gF17, gF18, gF19, pF0, pF1, pF2, pF3, pF4, pF5, pF6, pF7, pF8, pF9, pF10, pF11, pF12, pF13, pF14, pF15, pF16, pF17, pF18, pF19, aI_mk, aL_mk, aA_mk, sI_mk, sL_mk, sA_mk, isO_mk, rl_some, rl_none, true_and, and_true, true_or, or_true, wr_1, h0, oM, c102 D, c104 D, s_nf_df, s_nf_wf, s_nf_st, s_nf_af, s_nf_cf, s_nf_ty, s_nf_pa, s_nf_le, s_nf_ri, s_nf_re, s_nf_rs, s_nf_nf, s_nf_wr, s_nf_wd, s_nf_mf, s_nf_vf, s_nf_be, s_nf_fa, s_nf_up, s_nf_dn, hp, if_neg hc, bI_f ho2, not_true, if_false]
    refine l106d hp hU hi (by omega) U 0 w f (by omega) D (fun w2 f2 e2 D2 E => ?_)
    obtain ⟨h0, h1, h5⟩ := D2.nf0
    simp only [q106_114, q106_115, q106_118, q106_120, q106_121, q106_122, q106_123, q106_124, q106_125, q106_126, q106_127, q106_130, q106_131, q106_132, q106_133, q106_134, q106_137, q106_138, q106_139, q106_140, q106_143, gF0, gF1, gF2, gF3, gF4, gF5, gF6, gF7, gF8, gF9, gF10, gF11, gF12, gF13, gF14, gF15, gF16, gF17, gF18, gF19, pF0, pF1, pF2, pF3, pF4, pF5, pF6, pF7, pF8, pF9, pF10, pF11, pF12, pF13, pF14, pF15, pF16, pF17, pF18, pF19, aI_mk, aL_mk, aA_mk, sI_mk, sL_mk, sA_mk, isO_mk, rl_some, rl_none, true_and, and_true, true_or, or_true, wr_1, h0, oM, h5, c103 D2 hi (show a < 5 by omega), c105 D2 hi hkk, s_nf_df, s_nf_wf, s_nf_st, s_nf_af, s_nf_cf, s_nf_ty, s_nf_pa, s_nf_le, s_nf_ri, s_nf_re, s_nf_rs, s_nf_nf, s_nf_wr, s_nf_wd, s_nf_mf, s_nf_vf, s_nf_be, s_nf_fa, s_nf_up, s_nf_dn, ix25 (show a < 5 by omega), nI_1]
    refine ih (a + 1) _ _ _ (by omega) D2.nf1 (fun w3 f3 x4 e3 D3 E1 E2 => K w3 f3 x4 ((e2.tr (fr.wr (by omega) (by omega))).tr e3) D3 (fun p q hp1 hq1 => ?_) (fun p hp1 => ?_))
    · rw [E1 p q hp1 hq1, pk_uLn (by omega), E (5 * p + q)]
      by_cases c1 : p = a
      · subst c1
        rw [if_neg (by omega), if_pos (by omega), if_pos (by omega), show 5 * p + q - 5 * p = q by omega]
      · rw [if_neg (show ¬ (5 * a + 0 ≤ 5 * p + q ∧ 5 * p + q < 5 * a + U) by omega)]
        by_cases c2 : a + 1 ≤ p
        · rw [if_pos c2, if_pos (by omega)]
        · rw [if_neg c2, if_neg (by omega)]
    · rw [E2 p hp1]
      by_cases c1 : p = a
      · subst c1
        rw [if_neg (by omega), if_pos (by omega), pk_uLs, E (25 + p), if_neg (by omega)]
      · rw [pk_uLn (by omega), E (25 + p), if_neg (show ¬ (5 * a + 0 ≤ 25 + p ∧ 25 + p < 5 * a + U) by omega)]
        by_cases c2 : a + 1 ≤ p
        · rw [if_pos c2, if_pos (by omega)]
        · rw [if_neg c2, if_neg (by omega)]
theorem l106b (hp : 4 + m.df 1 = nI U) (hU : U ≤ 5) (hU1 : 1 ≤ U) {i t : Nat} (hi : i < 12) (ht : m.df (28 + i) = nI t) (ht6 : t ≤ 6) : ∀ (k kk : Nat) (w : xW) (f : Nat → Int64) (x3 x4 : Value), kk + k = t → isM w (m.s_nf f) → (∀ w2 f2 x3 x4, fr w w2 51 60 → isM w2 (m.s_nf f2) → (∀ p q, p < U → q < U → f2 (5 * p + q) = foldN (hN (ouF m) (lD m.df) (rD m.df) i p q) k kk (f (5 * p + q))) → (∀ p, p < U → f2 (25 + p) = foldN (hS (m.df 0) (ouF m) (lD m.df) (rD m.df) (mD m.df) i p) k kk (f (25 + p))) → Wp 106 b 152 [.ref 51, .int (nI i), .int (nI t), x3, x4] [] w2 Q) → Wp 106 b 35 [.ref 51, .int (nI i), .int (nI kk), x3, x4] [] w Q := by
  intro k
  induction k with
  | zero =>
    intro kk w f x3 x4 hk D K
    have hc : nI t ≤ nI kk := nI_le (by omega) (by omega)
    obtain ⟨h0, h1, h5⟩ := D.nf0
    simp only [q106_35, q106_36, q106_37, q106_40, q106_42, q106_43, q106_44, q106_45, gF0, gF1, gF2, gF3, gF4, gF5, gF6, gF7, gF8, gF9, gF10, gF11, gF12, gF13, gF14, gF15, gF16, gF17, gF18, gF19, pF0, pF1, pF2, pF3, pF4, pF5, pF6, pF7, pF8, pF9, pF10, pF11, pF12, pF13, pF14, pF15, pF16, pF17, pF18, pF19, aI_mk, aL_mk, aA_mk, sI_mk, sL_mk, sA_mk, isO_mk, rl_some, rl_none, true_and, and_true, true_or, or_true, wr_1, h0, oM, h1, ix28 hi, ht, if_pos hc]
    have e : kk = t := by omega
    subst e
    exact K w f x3 x4 fr.rf D (fun p q h1 h2 => rfl) (fun p h1 => rfl)
  | succ k ih =>
    intro kk w f x3 x4 hk D K
    have hc : ¬ nI t ≤ nI kk := by rw [nI_le' (by omega) (by omega)]; omega
    obtain ⟨h0, h1, h5⟩ := D.nf0
    have z0 : (0 : Int32) = nI 0 := rfl
    have hN1 : ∀ p q acc, foldN (hN (ouF m) (lD m.df) (rD m.df) i p q) (k + 1) kk acc = foldN (hN (ouF m) (lD m.df) (rD m.df) i p q) k (kk + 1) (hN (ouF m) (lD m.df) (rD m.df) i p q acc kk) := fun p q acc => rfl
    have hS1 : ∀ p acc, foldN (hS (m.df 0) (ouF m) (lD m.df) (rD m.df) (mD m.df) i p) (k + 1) kk acc = foldN (hS (m.df 0) (ouF m) (lD m.df) (rD m.df) (mD m.df) i p) k (kk + 1) (hS (m.df 0) (ouF m) (lD m.df) (rD m.df) (mD m.df) i p acc kk) := fun p acc => rfl
    simp only [q106_35]
    simp only [q106_36, q106_37, q106_40, q106_42, q106_43, q106_44, q106_45, q106_48, q106_49, gF0, gF1, gF2, gF3, gF4, gF5, gF6, gF7, gF8, gF9, gF10, gF11, gF12, gF13, gF14, gF15, gF16, gF17, gF18, gF19, pF0, pF1, pF2, pF3, pF4, pF5, pF6, pF7, pF8, pF9, pF10, pF11, pF12, pF13, pF14, pF15, pF16, pF17, pF18, pF19, aI_mk, aL_mk, aA_mk, sI_mk, sL_mk, sA_mk, isO_mk, rl_some, rl_none, true_and, and_true, true_or, or_true, wr_1, h0, oM, h1, ix28 hi, ht, if_neg hc]
    cases ho : ouF m i kk with
    | false =>
      refine l106c hp hU hi (by omega) ho U 0 w f x4 (by omega) D (fun w2 f2 x4 e2 D2 E1 E2 => ?_)
      simp only [q106_146, q106_149, nI_1]
      refine ih (kk + 1) w2 f2 _ _ (by omega) D2 (fun w3 f3 x3 x4 e3 D3 F1 F2 => K w3 f3 x3 x4 (e2.tr e3) D3 (fun p q h1 h2 => ?_) (fun p h1 => ?_))
      · rw [F1 p q h1 h2, E1 p q h1 h2, if_pos (Nat.zero_le _), hN1]
        unfold hN
        simp only [ho, Bool.false_eq_true, if_false]
      · rw [F2 p h1, E2 p h1, if_pos (Nat.zero_le _), hS1]
        unfold hS
        simp only [ho, Bool.false_eq_true, if_false]
    | true =>
      have ho2 : nI i = m.wr ∧ (m.wd = -1 ∨ m.wd = nI kk) := of_decide_eq_true ho
      have hc0 : ¬ nI U ≤ 0 := by rw [z0, nI_le' (by omega) (by omega)]; omega
      have z1 : ¬ (1 : Int32) = 0 := by decide
      simp only [q106_50, q106_51, q106_52, q106_55, q106_58, q106_59, q106_60, q106_61, q106_64, gF0, gF1, gF2, gF3, gF4, gF5, gF6, gF7, gF8, gF9, gF10, gF11, gF12, gF13, gF14, gF15, gF16, gF17, gF18, gF19, pF0, pF1, pF2, pF3, pF4, pF5, pF6, pF7, pF8, pF9, pF10, pF11, pF12, pF13, pF14, pF15, pF16, pF17, pF18, pF19, aI_mk, aL_mk, aA_mk, sI_mk, sL_mk, sA_mk, isO_mk, rl_some, rl_none, true_and, and_true, true_or, or_true, wr_1, h0, oM, c102 D, c104 D, s_nf_df, s_nf_wf, s_nf_st, s_nf_af, s_nf_cf, s_nf_ty, s_nf_pa, s_nf_le, s_nf_ri, s_nf_re, s_nf_rs, s_nf_nf, s_nf_wr, s_nf_wd, s_nf_mf, s_nf_vf, s_nf_be, s_nf_fa, s_nf_up, s_nf_dn, hp, if_neg hc0, bI_t ho2, z1, not_false_eq_true, if_true]
      simp only [q106_146, q106_149, nI_1]
      refine ih (kk + 1) w f _ _ (by omega) D (fun w3 f3 x3 x4 e3 D3 F1 F2 => K w3 f3 x3 x4 e3 D3 (fun p q h1 h2 => ?_) (fun p h1 => ?_))
      · rw [F1 p q h1 h2, hN1]
        unfold hN
        simp only [ho, if_true]
      · rw [F2 p h1, hS1]
        unfold hS
        simp only [ho, if_true]
theorem l106a (hp : 4 + m.df 1 = nI U) (hU : U ≤ 5) (hU1 : 1 ≤ U) (v : vM m.df n) : ∀ (k i : Nat) (w : xW) (f : Nat → Int64) (x2 x3 x4 : Value), i + k = n → isM w (m.s_nf f) → (∀ w2 f2, fr w w2 51 60 → isM w2 (m.s_nf f2) → (∀ p q, p < U → q < U → f2 (5 * p + q) = foldN (fun acc i => foldN (hN (ouF m) (lD m.df) (rD m.df) i p q) (tkF (tD m.df) i) 0 acc) k i (f (5 * p + q))) → (∀ p, p < U → f2 (25 + p) = foldN (fun acc i => foldN (hS (m.df 0) (ouF m) (lD m.df) (rD m.df) (mD m.df) i p) (tkF (tD m.df) i) 0 acc) k i (f (25 + p))) → Q none w2) → Wp 106 b 23 [.ref 51, .int (nI i), x2, x3, x4] [] w Q := by
  have hn := v.2.1
  have v0 := v.1
  intro k
  induction k with
  | zero =>
    intro i w f x2 x3 x4 hk D K
    have hc : nI n ≤ nI i := nI_le (by omega) (by omega)
    obtain ⟨h0, h1, h5⟩ := D.nf0
    simp only [q106_23, q106_24, q106_25, q106_28, q106_29, q106_30, q106_158, gF0, gF1, gF2, gF3, gF4, gF5, gF6, gF7, gF8, gF9, gF10, gF11, gF12, gF13, gF14, gF15, gF16, gF17, gF18, gF19, pF0, pF1, pF2, pF3, pF4, pF5, pF6, pF7, pF8, pF9, pF10, pF11, pF12, pF13, pF14, pF15, pF16, pF17, pF18, pF19, aI_mk, aL_mk, aA_mk, sI_mk, sL_mk, sA_mk, isO_mk, rl_some, rl_none, true_and, and_true, true_or, or_true, wr_1, h0, oM, h1, p112, Int32.reduceToNatClampNeg, v0, if_pos hc]
    exact K w f fr.rf D (fun p q h1 h2 => rfl) (fun p h1 => rfl)
  | succ k ih =>
    intro i w f x2 x3 x4 hk D K
    have hc : ¬ nI n ≤ nI i := by rw [nI_le' (by omega) (by omega)]; omega
    obtain ⟨h0, h1, h5⟩ := D.nf0
    obtain ⟨t1, t2⟩ := v.2.2 i (by omega)
    simp only [q106_23]
    simp only [q106_24, q106_25, q106_28, q106_29, q106_30, q106_33, q106_34, gF0, gF1, gF2, gF3, gF4, gF5, gF6, gF7, gF8, gF9, gF10, gF11, gF12, gF13, gF14, gF15, gF16, gF17, gF18, gF19, pF0, pF1, pF2, pF3, pF4, pF5, pF6, pF7, pF8, pF9, pF10, pF11, pF12, pF13, pF14, pF15, pF16, pF17, pF18, pF19, aI_mk, aL_mk, aA_mk, sI_mk, sL_mk, sA_mk, isO_mk, rl_some, rl_none, true_and, and_true, true_or, or_true, wr_1, h0, oM, h1, p112, Int32.reduceToNatClampNeg, v0, if_neg hc]
    refine l106b hp hU hU1 (by omega) t1 t2 _ 0 w f x3 x4 (Nat.zero_add _) D (fun w2 f2 x3 x4 e2 D2 E1 E2 => ?_)
    simp only [q106_152, q106_155, nI_1]
    refine ih (i + 1) w2 f2 _ _ _ (by omega) D2 (fun w3 f3 e3 D3 F1 F2 => K w3 f3 (e2.tr e3) D3 (fun p q h1 h2 => ?_) (fun p h1 => ?_))
    · rw [F1 p q h1 h2, E1 p q h1 h2]
      rfl
    · rw [F2 p h1, E2 p h1]
      rfl
theorem l106z : ∀ (k i : Nat) (w : xW) (f : Nat → Int64), i + k = 30 → isM w (m.s_nf f) → (∀ w2 f2, fr w w2 51 60 → isM w2 (m.s_nf f2) → (∀ z, f2 z = if i ≤ z ∧ z < 30 then 0 else f z) → Wp 106 b 21 [.ref 51, .int 30, x_no, x_no, x_no] [] w2 Q) → Wp 106 b 2 [.ref 51, .int (nI i), x_no, x_no, x_no] [] w Q := by
  intro k
  induction k with
  | zero =>
    intro i w f hk D K
    have e : i = 30 := by omega
    subst e
    have hc : (30 : Int32) ≤ nI 30 := by decide
    simp only [q106_2, q106_3, q106_5, gF0, gF1, gF2, gF3, gF4, gF5, gF6, gF7, gF8, gF9, gF10, gF11, gF12, gF13, gF14, gF15, gF16, gF17, gF18, gF19, pF0, pF1, pF2, pF3, pF4, pF5, pF6, pF7, pF8, pF9, pF10, pF11, pF12, pF13, pF14, pF15, pF16, pF17, pF18, pF19, aI_mk, aL_mk, aA_mk, sI_mk, sL_mk, sA_mk, isO_mk, rl_some, rl_none, true_and, and_true, true_or, or_true, wr_1, if_pos hc]
    exact K w f fr.rf D (fun z => by rw [if_neg (by omega)])
  | succ k ih =>
    intro i w f hk D K
    have hc : ¬ (30 : Int32) ≤ nI i := by rw [show (30 : Int32) = nI 30 from rfl, nI_le' (by omega) (by omega)]; omega
    obtain ⟨h0, h1, h5⟩ := D.nf0
    have hx : x_pl (nI i) 30 := x_pl_nI (by omega) (by omega)
    have hcl : (nI i).toNatClampNeg = i := cl_nI (by omega)
    simp only [q106_2]
    simp only [q106_3, q106_5, q106_8, q106_9, q106_12, q106_13, q106_14, q106_15, q106_18, gF0, gF1, gF2, gF3, gF4, gF5, gF6, gF7, gF8, gF9, gF10, gF11, gF12, gF13, gF14, gF15, gF16, gF17, gF18, gF19, pF0, pF1, pF2, pF3, pF4, pF5, pF6, pF7, pF8, pF9, pF10, pF11, pF12, pF13, pF14, pF15, pF16, pF17, pF18, pF19, aI_mk, aL_mk, aA_mk, sI_mk, sL_mk, sA_mk, isO_mk, rl_some, rl_none, true_and, and_true, true_or, or_true, wr_1, h0, oM, h5, if_neg hc, hx, hcl, nI_1]
    refine ih (i + 1) _ _ (by omega) D.nf1 (fun w2 f2 e2 D2 E => K w2 f2 ((fr.wr (by omega) (by omega)).tr e2) D2 (fun z => ?_))
    rw [E z]
    by_cases c1 : z = i
    · rw [if_neg (by omega), if_pos (by omega), c1, pk_uLs]
    · rw [pk_uLn c1]
      by_cases c2 : i + 1 ≤ z ∧ z < 30
      · rw [if_pos c2, if_pos (by omega)]
      · rw [if_neg c2, if_neg (by omega)]
/-- the reference's equations and sums -/
def hNN (n : Nat) (o : Nat → Nat → Bool) (lf rf tf : Nat → Int32) (p q : Nat) : Int64 := foldN (fun acc i => foldN (hN o lf rf i p q) (tkF tf i) 0 acc) n 0 0
def hSS (n : Nat) (s : Int32) (o : Nat → Nat → Bool) (lf rf tf mf : Nat → Int32) (p : Nat) : Int64 := foldN (fun acc i => foldN (hS s o lf rf mf i p) (tkF tf i) 0 acc) n 0 0
theorem c106 {w : xW} {f : Nat → Int64} (D : isM w (m.s_nf f)) (hp : 4 + m.df 1 = nI U) (hU : U ≤ 5) (hU1 : 1 ≤ U) (v : vM m.df n) (K : ∀ w2 f2, fr w w2 51 60 → isM w2 (m.s_nf f2) → (∀ p q, p < U → q < U → f2 (5 * p + q) = hNN n (ouF m) (lD m.df) (rD m.df) (tD m.df) p q) → (∀ p, p < U → f2 (25 + p) = hSS n (m.df 0) (ouF m) (lD m.df) (rD m.df) (tD m.df) (mD m.df) p) → Q none w2) : Wp 106 b 0 [.ref 51, x_no, x_no, x_no, x_no] [] w Q := by
  simp only [q106_0, q106_1]
  refine l106z 30 0 w f (by omega) D (fun w2 f2 e2 D2 E => ?_)
  simp only [q106_21, q106_22]
  refine l106a hp hU hU1 v n 0 w2 f2 _ _ _ (by omega) D2 (fun w3 f3 e3 D3 F1 F2 => K w3 f3 (e2.tr e3) D3 (fun p q h1 h2 => ?_) (fun p h1 => ?_))
  · rw [F1 p q h1 h2, E _, if_pos (by omega)]
    rfl
  · rw [F2 p h1, E _, if_pos (by omega)]
    rfl
end MR5
