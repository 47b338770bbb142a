theorem ms_or {cf : Nat → Int32} {len n p : Nat} {d : Nat → Int32} : (msF cf len n d p).1 ≤ 0 ↔ (msF cf len n d p).1 = 0 := by
  have h : (msF cf len n d p).1 = 0 ∨ (msF cf len n d p).1 = 1 ∨ (msF cf len n d p).1 = 2 ∨ (msF cf len n d p).1 = 3 ∨ (msF cf len n d p).1 = 4 := by
    unfold msF
    cases prF cf len p with
    | none => exact Or.inr (Or.inl rfl)
    | some z =>
      simp only
      by_cases c1 : ¬ (z.1.1 &&& z.1.2.1 = 0)
      · rw [if_pos c1]
        exact Or.inr (Or.inr (Or.inl rfl))
      · rw [if_neg c1]
        by_cases c2 : ¬ (-100000 ≤ z.1.2.2 ∧ z.1.2.2 ≤ 100000)
        · rw [if_pos c2]
          exact Or.inr (Or.inr (Or.inr (Or.inl rfl)))
        · rw [if_neg c2]
          cases mtF d n z.1.1 z.1.2.1 z.1.2.2 with
          | none => exact Or.inr (Or.inr (Or.inr (Or.inr rfl)))
          | some q => exact Or.inl rfl
  generalize (msF cf len n d p).1 = r at h ⊢
  rcases h with rfl | rfl | rfl | rfl | rfl <;> decide
theorem nI_nf {p : Nat} (h : p ≤ 1000) : ¬ nI p = -2000000004 := by
  intro e
  have := nI_pos (n := p) (by omega)
  rw [e] at this
  exact absurd (by decide) this
section MRI
variable {b : Nat} {m : xM} {len : Nat} {Q : Option Value → xW → Prop}
theorem e12 {w : xW} {d : Nat → Int32} {p p0 : Nat} {le ri re rs : Int32} {x2 : Value} (D : isM w ((m.s_df d).s_T (nI p) le ri re rs)) (hp0 : p0 ≤ 80) (K : Wp 151 b 58 [.ref 51, .int (nI p0), x2] [] w Q) : Wp 151 b 12 [.ref 51, .int (nI p0), x2] [] w Q := by
  have h0 := D.T0.1
  have hn := nI_nf (p := p0) (by omega)
  by_cases c : nI m.ty ≤ nI p
  · simp only [q151_12, q151_13, q151_16, q151_17, q151_20, gF0, gF1, gF2, gF3, gF4, gF5, gF6, gF7, gF8, gF9, gF10, gF11, gF12, gF13, gF14, gF15, gF16, gF17, gF18, gF19, pF0, pF1, pF2, pF3, pF4, pF5, pF6, pF7, pF8, pF9, pF10, pF11, pF12, pF13, pF14, pF15, pF16, pF17, pF18, pF19, aI_mk, aL_mk, aA_mk, sI_mk, sL_mk, sA_mk, isO_mk, rl_some, rl_none, true_and, and_true, true_or, or_true, wr_1, h0, s_df_ty, if_pos c]
    exact K
  · simp only [q151_12, q151_13, q151_16, q151_17, q151_20, q151_23, q151_24, q151_26, gF0, gF1, gF2, gF3, gF4, gF5, gF6, gF7, gF8, gF9, gF10, gF11, gF12, gF13, gF14, gF15, gF16, gF17, gF18, gF19, pF0, pF1, pF2, pF3, pF4, pF5, pF6, pF7, pF8, pF9, pF10, pF11, pF12, pF13, pF14, pF15, pF16, pF17, pF18, pF19, aI_mk, aL_mk, aA_mk, sI_mk, sL_mk, sA_mk, isO_mk, rl_some, rl_none, true_and, and_true, true_or, or_true, wr_1, h0, s_df_ty, if_neg c, hn, not_false_eq_true, if_true]
    exact K
theorem l151 (hl : m.ty = len) (h80 : len ≤ 80) : ∀ (k : Nat) (w : xW) (d : Nat → Int32) (n : Nat) (dd : DD) (p e : Nat) (le ri re rs : Int32) (x2 : Value), len ≤ p + k → p ≤ 80 → eqD (dOf n d) dd → vM d n → isM w ((m.s_df d).s_T (nI p) le ri re rs) → (∀ w2 d2 p2 le2 ri2 re2 rs2 x1 x2, fr w w2 51 60 → isM w2 ((m.s_df d2).s_T p2 le2 ri2 re2 rs2) → ((rnF m.cf len k dd p e).1 = 0 → x1 = -2000000004) → (¬ (rnF m.cf len k dd p e).1 = 0 → x1 = nI (rnF m.cf len k dd p e).2.2.1 ∧ (rnF m.cf len k dd p e).2.2.1 ≤ 80 ∧ rs2 = (rnF m.cf len k dd p e).1) → Wp 151 b 58 [.ref 51, .int x1, x2] [] w2 Q) → Wp 151 b 12 [.ref 51, .int (-2000000004), x2] [] w Q := by
  intro k
  induction k with
  | zero =>
    intro w d n dd p e le ri re rs x2 hk hp E v D K
    have h0 := D.T0.1
    have hc : nI m.ty ≤ nI p := by rw [hl]; exact nI_le (by omega) (by omega)
    have := K w d (nI p) le ri re rs (-2000000004) x2 fr.rf D (fun _ => rfl) (fun q => absurd rfl q)
    simp only [q151_12, q151_13, q151_16, q151_17, q151_20, gF0, gF1, gF2, gF3, gF4, gF5, gF6, gF7, gF8, gF9, gF10, gF11, gF12, gF13, gF14, gF15, gF16, gF17, gF18, gF19, pF0, pF1, pF2, pF3, pF4, pF5, pF6, pF7, pF8, pF9, pF10, pF11, pF12, pF13, pF14, pF15, pF16, pF17, pF18, pF19, aI_mk, aL_mk, aA_mk, sI_mk, sL_mk, sA_mk, isO_mk, rl_some, rl_none, true_and, and_true, true_or, or_true, wr_1, h0, s_df_ty, if_pos hc]
    exact this
  | succ k ih =>
    intro w d n dd p e le ri re rs x2 hk hp E v D K
    have h0 := D.T0.1
    by_cases q : p < len
    · have hc : ¬ nI m.ty ≤ nI p := by rw [hl, nI_le' (by omega) (by omega)]; omega
      have er : rnF m.cf len (k + 1) dd p e = (if (stF m.cf len dd p).1 = 0 then rnF m.cf len k (stF m.cf len dd p).2.1 (stF m.cf len dd p).2.2 (e + 1) else ((stF m.cf len dd p).1, (stF m.cf len dd p).2.1, p, e)) := if_pos q
      obtain ⟨s1, s2, s3⟩ := ms_st (cf := m.cf) (len := len) (p := p) E v
      rw [er] at K
      simp only [q151_12]
      simp only [q151_13, q151_16, q151_17, q151_20, q151_23, q151_24, q151_26, q151_29, q151_30, q151_33, q151_34, q151_35, q151_36, gF0, gF1, gF2, gF3, gF4, gF5, gF6, gF7, gF8, gF9, gF10, gF11, gF12, gF13, gF14, gF15, gF16, gF17, gF18, gF19, pF0, pF1, pF2, pF3, pF4, pF5, pF6, pF7, pF8, pF9, pF10, pF11, pF12, pF13, pF14, pF15, pF16, pF17, pF18, pF19, aI_mk, aL_mk, aA_mk, sI_mk, sL_mk, sA_mk, isO_mk, rl_some, rl_none, true_and, and_true, true_or, or_true, wr_1, h0, s_df_ty, if_neg hc, not_true, if_false]
      refine c148 D v hl h80 hp (fun w2 p2 le2 ri2 re2 f2 hp2 D2 hz v2 => ?_)
      have h2 := D2.T0.1
      have D3 := D2.T1 (nI p2) le2 ri2 re2 (msF m.cf len n d p).1
      have f3 := f2.tr (fr.wr (a := 51) (c := .inr (6, [.ref 52, .ref 53, .int (nI (m.s_df (msF m.cf len n d p).2.1).st), .ref 54, .ref 55, .int (nI (m.s_df (msF m.cf len n d p).2.1).ty), .int (nI p2), .int le2, .int ri2, .int re2, .int (msF m.cf len n d p).1, .ref 56, .int (m.s_df (msF m.cf len n d p).2.1).wr, .int (m.s_df (msF m.cf len n d p).2.1).wd, .ref 57, .ref 58, .long (m.s_df (msF m.cf len n d p).2.1).be, .ref 59, .long (m.s_df (msF m.cf len n d p).2.1).up, .long (m.s_df (msF m.cf len n d p).2.1).dn])) (by omega) (by omega))
      have hor := ms_or (cf := m.cf) (len := len) (n := n) (p := p) (d := d)
      have R0 : (msF m.cf len n d p).1 = 0 → Wp 151 b 12 [.ref 51, .int (-2000000004), .int (nI p)] [] (wr w2 51 (.inr (6, [.ref 52, .ref 53, .int (nI (m.s_df (msF m.cf len n d p).2.1).st), .ref 54, .ref 55, .int (nI (m.s_df (msF m.cf len n d p).2.1).ty), .int (nI p2), .int le2, .int ri2, .int re2, .int (msF m.cf len n d p).1, .ref 56, .int (m.s_df (msF m.cf len n d p).2.1).wr, .int (m.s_df (msF m.cf len n d p).2.1).wd, .ref 57, .ref 58, .long (m.s_df (msF m.cf len n d p).2.1).be, .ref 59, .long (m.s_df (msF m.cf len n d p).2.1).up, .long (m.s_df (msF m.cf len n d p).2.1).dn]))) Q := by
        intro hr
        obtain ⟨y1, y2⟩ := hz hr
        rw [if_pos (s1.symm.trans hr), ← s3, ← y1] at K
        exact ih _ _ _ _ p2 (e + 1) _ _ _ _ _ (by omega) hp2 s2 v2 D3 (fun w4 d4 p4 le4 ri4 re4 rs4 x1 x4 f4 => K w4 d4 p4 le4 ri4 re4 rs4 x1 x4 (f3.tr f4))
      have R1 : ¬ (msF m.cf len n d p).1 = 0 → Wp 151 b 12 [.ref 51, .int (nI p), .int (nI p)] [] (wr w2 51 (.inr (6, [.ref 52, .ref 53, .int (nI (m.s_df (msF m.cf len n d p).2.1).st), .ref 54, .ref 55, .int (nI (m.s_df (msF m.cf len n d p).2.1).ty), .int (nI p2), .int le2, .int ri2, .int re2, .int (msF m.cf len n d p).1, .ref 56, .int (m.s_df (msF m.cf len n d p).2.1).wr, .int (m.s_df (msF m.cf len n d p).2.1).wd, .ref 57, .ref 58, .long (m.s_df (msF m.cf len n d p).2.1).be, .ref 59, .long (m.s_df (msF m.cf len n d p).2.1).up, .long (m.s_df (msF m.cf len n d p).2.1).dn]))) Q := by
        intro hr
        have hr2 : ¬ (stF m.cf len dd p).1 = 0 := fun z => hr (s1.trans z)
        rw [if_neg hr2] at K
        exact e12 D3 hp (K _ _ _ _ _ _ _ (nI p) _ f3 D3 (fun z => absurd z hr2) (fun _ => ⟨rfl, hp, s1⟩))
      by_cases hr : (msF m.cf len n d p).1 = 0
      · have := R0 hr
        simp only [q151_39, q151_42, q151_43, q151_46, q151_53, q151_54, q151_55, gF0, gF1, gF2, gF3, gF4, gF5, gF6, gF7, gF8, gF9, gF10, gF11, gF12, gF13, gF14, gF15, gF16, gF17, gF18, gF19, pF0, pF1, pF2, pF3, pF4, pF5, pF6, pF7, pF8, pF9, pF10, pF11, pF12, pF13, pF14, pF15, pF16, pF17, pF18, pF19, aI_mk, aL_mk, aA_mk, sI_mk, sL_mk, sA_mk, isO_mk, rl_some, rl_none, true_and, and_true, true_or, or_true, wr_1, h2, rd_s, if_pos (hor.mpr hr)]
        exact this
      · have := R1 hr
        simp only [q151_39, q151_42, q151_43, q151_46, q151_49, q151_50, q151_53, q151_54, q151_55, gF0, gF1, gF2, gF3, gF4, gF5, gF6, gF7, gF8, gF9, gF10, gF11, gF12, gF13, gF14, gF15, gF16, gF17, gF18, gF19, pF0, pF1, pF2, pF3, pF4, pF5, pF6, pF7, pF8, pF9, pF10, pF11, pF12, pF13, pF14, pF15, pF16, pF17, pF18, pF19, aI_mk, aL_mk, aA_mk, sI_mk, sL_mk, sA_mk, isO_mk, rl_some, rl_none, true_and, and_true, true_or, or_true, wr_1, h2, rd_s, if_neg (fun z => hr (hor.mp z))]
        exact this
    · have hc : nI m.ty ≤ nI p := by rw [hl]; exact nI_le (by omega) (by omega)
      have er : rnF m.cf len (k + 1) dd p e = (0, dd, p, e) := if_neg q
      rw [er] at K
      have := K w d (nI p) le ri re rs (-2000000004) x2 fr.rf D (fun _ => rfl) (fun q => absurd rfl q)
      simp only [q151_12, q151_13, q151_16, q151_17, q151_20, gF0, gF1, gF2, gF3, gF4, gF5, gF6, gF7, gF8, gF9, gF10, gF11, gF12, gF13, gF14, gF15, gF16, gF17, gF18, gF19, pF0, pF1, pF2, pF3, pF4, pF5, pF6, pF7, pF8, pF9, pF10, pF11, pF12, pF13, pF14, pF15, pF16, pF17, pF18, pF19, aI_mk, aL_mk, aA_mk, sI_mk, sL_mk, sA_mk, isO_mk, rl_some, rl_none, true_and, and_true, true_or, or_true, wr_1, h0, s_df_ty, if_pos hc]
      exact this
theorem l153 (hl : m.ty = len) (h80 : len ≤ 80) : ∀ (k : Nat) (w : xW) (d : Nat → Int32) (n : Nat) (dd : DD) (p e : Nat) (le ri re rs : Int32), len ≤ p + k → p ≤ 80 → eqD (dOf n d) dd → vM d n → (rnF m.cf len k dd p e).1 = 0 → isM w ((m.s_df d).s_T (nI p) le ri re rs) → (∀ w2 d2 n2 p2 le2 ri2 re2, fr w w2 51 60 → isM w2 ((m.s_df d2).s_T p2 le2 ri2 re2 rs) → eqD (dOf n2 d2) (rnF m.cf len k dd p e).2.1 → vM d2 n2 → Q (some (.int (nI (rnF m.cf len k dd p e).2.2.2))) w2) → Wp 153 b 23 [.ref 51, .int (nI e)] [] w Q := by
  intro k
  induction k with
  | zero =>
    intro w d n dd p e le ri re rs hk hp E v h D K
    have h0 := D.T0.1
    have hc : nI m.ty ≤ nI p := by rw [hl]; exact nI_le (by omega) (by omega)
    have := K w d n (nI p) le ri re fr.rf D E v
    simp only [q153_23, q153_24, q153_27, q153_28, q153_31, q153_45, q153_46, gF0, gF1, gF2, gF3, gF4, gF5, gF6, gF7, gF8, gF9, gF10, gF11, gF12, gF13, gF14, gF15, gF16, gF17, gF18, gF19, pF0, pF1, pF2, pF3, pF4, pF5, pF6, pF7, pF8, pF9, pF10, pF11, pF12, pF13, pF14, pF15, pF16, pF17, pF18, pF19, aI_mk, aL_mk, aA_mk, sI_mk, sL_mk, sA_mk, isO_mk, rl_some, rl_none, true_and, and_true, true_or, or_true, wr_1, h0, s_df_ty, if_pos hc]
    exact this
  | succ k ih =>
    intro w d n dd p e le ri re rs hk hp E v h D K
    have h0 := D.T0.1
    by_cases q : p < len
    · have hc : ¬ nI m.ty ≤ nI p := by rw [hl, nI_le' (by omega) (by omega)]; omega
      have er : rnF m.cf len (k + 1) dd p e = (if (stF m.cf len dd p).1 = 0 then rnF m.cf len k (stF m.cf len dd p).2.1 (stF m.cf len dd p).2.2 (e + 1) else ((stF m.cf len dd p).1, (stF m.cf len dd p).2.1, p, e)) := if_pos q
      obtain ⟨s1, s2, s3⟩ := ms_st (cf := m.cf) (len := len) (p := p) E v
      have hs : (stF m.cf len dd p).1 = 0 := by
        rcases Decidable.em ((stF m.cf len dd p).1 = 0) with z | z
        · exact z
        · rw [er, if_neg z] at h
          exact absurd h z
      rw [er, if_pos hs] at K h
      simp only [q153_23]
      simp only [q153_24, q153_27, q153_28, q153_31, q153_34, q153_35, gF0, gF1, gF2, gF3, gF4, gF5, gF6, gF7, gF8, gF9, gF10, gF11, gF12, gF13, gF14, gF15, gF16, gF17, gF18, gF19, pF0, pF1, pF2, pF3, pF4, pF5, pF6, pF7, pF8, pF9, pF10, pF11, pF12, pF13, pF14, pF15, pF16, pF17, pF18, pF19, aI_mk, aL_mk, aA_mk, sI_mk, sL_mk, sA_mk, isO_mk, rl_some, rl_none, true_and, and_true, true_or, or_true, wr_1, h0, s_df_ty, if_neg hc]
      refine c148 D v hl h80 hp (fun w2 p2 le2 ri2 re2 f2 hp2 D2 hz v2 => ?_)
      obtain ⟨y1, y2⟩ := hz (s1.trans hs)
      rw [← s3, ← y1] at K h
      simp only [q153_38, q153_39, q153_42, gF0, gF1, gF2, gF3, gF4, gF5, gF6, gF7, gF8, gF9, gF10, gF11, gF12, gF13, gF14, gF15, gF16, gF17, gF18, gF19, pF0, pF1, pF2, pF3, pF4, pF5, pF6, pF7, pF8, pF9, pF10, pF11, pF12, pF13, pF14, pF15, pF16, pF17, pF18, pF19, aI_mk, aL_mk, aA_mk, sI_mk, sL_mk, sA_mk, isO_mk, rl_some, rl_none, true_and, and_true, true_or, or_true, wr_1, nI_1]
      exact ih w2 _ _ _ p2 (e + 1) _ _ _ _ (by omega) hp2 s2 v2 h D2 (fun w4 d4 n4 p4 le4 ri4 re4 f4 => K w4 d4 n4 p4 le4 ri4 re4 (f2.tr f4))
    · have hc : nI m.ty ≤ nI p := by rw [hl]; exact nI_le (by omega) (by omega)
      have er : rnF m.cf len (k + 1) dd p e = (0, dd, p, e) := if_neg q
      rw [er] at K
      have := K w d n (nI p) le ri re fr.rf D E v
      simp only [q153_23, q153_24, q153_27, q153_28, q153_31, q153_45, q153_46, gF0, gF1, gF2, gF3, gF4, gF5, gF6, gF7, gF8, gF9, gF10, gF11, gF12, gF13, gF14, gF15, gF16, gF17, gF18, gF19, pF0, pF1, pF2, pF3, pF4, pF5, pF6, pF7, pF8, pF9, pF10, pF11, pF12, pF13, pF14, pF15, pF16, pF17, pF18, pF19, aI_mk, aL_mk, aA_mk, sI_mk, sL_mk, sA_mk, isO_mk, rl_some, rl_none, true_and, and_true, true_or, or_true, wr_1, h0, s_df_ty, if_pos hc]
      exact this
end MRI
