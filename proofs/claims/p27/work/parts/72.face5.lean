/-! The class' fractions -/
theorem row4 {a : Int32} (h : hA a) : ∃ i, i < 5 ∧ a = nI i := by
  rcases x_04 h with rfl | rfl | rfl | rfl | rfl
  · exact ⟨0, by omega, rfl⟩
  · exact ⟨1, by omega, rfl⟩
  · exact ⟨2, by omega, rfl⟩
  · exact ⟨3, by omega, rfl⟩
  · exact ⟨4, by omega, rfl⟩
theorem rsF_k {s : Int32} {lf rf mf : Nat → Int32} {U : Nat} {det : Int64} {V V' : Nat → Int64} (h : ∀ a, a < U → V a = V' a) (i j : Nat) : rsF s lf rf mf U det V i j = rsF s lf rf mf U det V' i j := by
  unfold rsF
  exact foldN_congr U 0 _ (fun a j _ hj => by rw [h j (by omega)])
section FE
variable {oo : Nat} {w : xW} {b U : Nat} {d : DD} {k len : Nat} {H : Nat → DD} {cf : Nat → Int32} {Q : Option Value → xW → Prop}
theorem c68 (C : cW oo w d k H cf len) (v : vC d k H cf len) (hp : isU (dp d) U) {a t : Int32} (K : ∀ w2, fr w w2 oo (oo + 51) → cW oo w2 d k H cf len → Q (some (.long (vaA d U a t))) w2) : Wp 68 b 0 [.ref oo, .int a, .int t] [] w Q := by
  have h0 := C.1
  have h41 := C.o41
  have z1 : ¬ (1 : Int32) = 0 := by decide
  unfold vaA at K
  by_cases a1 : hA a
  · by_cases a2 : hB t
    · simp only [if_pos (And.intro a1 a2)] at K
      simp only [q68_0, q68_1, q68_4, q68_7, q68_8, q68_11, q68_14, q68_17, q68_18, q68_19, q68_22, q68_23, q68_26, gF0, gF1, gF2, gF3, gF4, gF5, gF6, gF7, gF8, gF9, gF10, gF11, gF12, gF13, gF14, gF15, gF16, gF17, gF18, gF19, pF0, pF1, pF2, pF3, pF4, pF5, pF6, pF7, pF8, pF9, pF10, pF11, pF12, pF13, pF14, pF15, pF16, pF17, pF18, pF19, aI_mk, aL_mk, aA_mk, sI_mk, sL_mk, sA_mk, isO_mk, rl_some, rl_none, true_and, and_true, true_or, or_true, wr_1, c86, bI_t a1, c87, bI_t a2, z1, not_false_eq_true, if_true, if_false, h0, oC, h41]
      refine c34w C v hp (fun w2 N2 S2 M2 V2 f2 C2 Z2 E => ?_)
      have KK := K w2 (f2.up (by omega) (by omega)) C2
      have g0 := C2.1
      have g1 := C2.2.1.1
      obtain ⟨y0, -, -, -, -, y5⟩ := Z2
      by_cases e : deD d U = 0
      · rw [if_pos e] at KK
        simp only [q68_29, q68_32, q68_35, gF0, gF1, gF2, gF3, gF4, gF5, gF6, gF7, gF8, gF9, gF10, gF11, gF12, gF13, gF14, gF15, gF16, gF17, gF18, gF19, pF0, pF1, pF2, pF3, pF4, pF5, pF6, pF7, pF8, pF9, pF10, pF11, pF12, pF13, pF14, pF15, pF16, pF17, pF18, pF19, aI_mk, aL_mk, aA_mk, sI_mk, sL_mk, sA_mk, isO_mk, rl_some, rl_none, true_and, and_true, true_or, or_true, wr_1, bI_f (fun q : ¬ deD d U = 0 => q e), not_true, if_false]
        exact KK
      · rw [if_neg e] at KK
        by_cases a0 : a = 0
        · rw [if_pos a0] at KK
          simp only [q68_29, q68_32, q68_35, q68_36, q68_37, q68_40, q68_41, q68_44, q68_47, q68_48, q68_49, q68_50, q68_53, gF0, gF1, gF2, gF3, gF4, gF5, gF6, gF7, gF8, gF9, gF10, gF11, gF12, gF13, gF14, gF15, gF16, gF17, gF18, gF19, pF0, pF1, pF2, pF3, pF4, pF5, pF6, pF7, pF8, pF9, pF10, pF11, pF12, pF13, pF14, pF15, pF16, pF17, pF18, pF19, aI_mk, aL_mk, aA_mk, sI_mk, sL_mk, sA_mk, isO_mk, rl_some, rl_none, true_and, and_true, true_or, or_true, wr_1, bI_t e, z1, not_false_eq_true, if_true, a0, not_true, if_false, g0, oC, g1, c90]
          exact KK
        · rw [if_neg a0] at KK
          obtain ⟨i, hi, ei⟩ := row4 a1
          obtain ⟨j, rfl⟩ : ∃ j, i = j + 1 := ⟨i - 1, by
            have : i ≠ 0 := fun q => a0 (by rw [ei, q]; rfl)
            omega⟩
          have ej : nI (j + 1) - 1 = nI j := nI_pred j
          have hxj : x_pl (nI j) 5 := x_pl_nI (by omega) (by omega)
          have hclj : (nI j).toNatClampNeg = j := cl_nI (by omega)
          have hclj1 : (nI (j + 1)).toNatClampNeg = j + 1 := cl_nI (by omega)
          have ev : V2 j = nuD d U j := E e j (by have := hp.2; omega)
          have n0 : ¬ nI (j + 1) = 0 := by rw [← ei]; exact a0
          subst ei
          rw [hclj1, Nat.add_sub_cancel] at KK
          simp only [q68_29, q68_32, q68_35, q68_36, q68_37, q68_40, q68_41, q68_44, q68_47, q68_48, q68_49, q68_50, q68_53, q68_54, q68_55, q68_58, q68_61, q68_62, q68_63, q68_64, q68_65, q68_66, q68_69, q68_72, q68_73, q68_76, gF0, gF1, gF2, gF3, gF4, gF5, gF6, gF7, gF8, gF9, gF10, gF11, gF12, gF13, gF14, gF15, gF16, gF17, gF18, gF19, pF0, pF1, pF2, pF3, pF4, pF5, pF6, pF7, pF8, pF9, pF10, pF11, pF12, pF13, pF14, pF15, pF16, pF17, pF18, pF19, aI_mk, aL_mk, aA_mk, sI_mk, sL_mk, sA_mk, isO_mk, rl_some, rl_none, true_and, and_true, true_or, or_true, wr_1, bI_t e, z1, not_false_eq_true, if_true, n0, g0, oC, y0, y5, ej, hxj, hclj, ev, c90]
          exact KK
    · have KK := K w fr.rf C
      rw [if_neg (fun q => a2 q.2)] at KK
      simp only [q68_0, q68_1, q68_4, q68_7, q68_8, q68_11, q68_14, q68_17, gF0, gF1, gF2, gF3, gF4, gF5, gF6, gF7, gF8, gF9, gF10, gF11, gF12, gF13, gF14, gF15, gF16, gF17, gF18, gF19, pF0, pF1, pF2, pF3, pF4, pF5, pF6, pF7, pF8, pF9, pF10, pF11, pF12, pF13, pF14, pF15, pF16, pF17, pF18, pF19, aI_mk, aL_mk, aA_mk, sI_mk, sL_mk, sA_mk, isO_mk, rl_some, rl_none, true_and, and_true, true_or, or_true, wr_1, c86, bI_t a1, c87, bI_f a2, z1, not_true, if_false]
      exact KK
  · have KK := K w fr.rf C
    rw [if_neg (fun q => a1 q.1)] at KK
    simp only [q68_0, q68_1, q68_4, q68_7, q68_8, q68_11, q68_14, q68_17, gF0, gF1, gF2, gF3, gF4, gF5, gF6, gF7, gF8, gF9, gF10, gF11, gF12, gF13, gF14, gF15, gF16, gF17, gF18, gF19, pF0, pF1, pF2, pF3, pF4, pF5, pF6, pF7, pF8, pF9, pF10, pF11, pF12, pF13, pF14, pF15, pF16, pF17, pF18, pF19, aI_mk, aL_mk, aA_mk, sI_mk, sL_mk, sA_mk, isO_mk, rl_some, rl_none, true_and, and_true, true_or, or_true, wr_1, c86, bI_f a1, if_true]
    exact KK
theorem U4 {p : Int32} (h : isU p U) : p = 0 ↔ U = 4 := by
  obtain ⟨h1, h2⟩ := h
  have e : p = nI U - 4 := by rw [← h1]; grind
  constructor
  · intro q
    rcases h2 with r | r
    · exact r
    · rw [r] at e
      rw [e] at q
      exact absurd q (by decide)
  · intro q
    rw [e, q]
    decide
theorem c69 (C : cW oo w d k H cf len) (v : vC d k H cf len) (hp : isU (dp d) U) {t : Int32} (K : ∀ w2, fr w w2 oo (oo + 51) → cW oo w2 d k H cf len → Q (some (.long (paA d U t))) w2) : Wp 69 b 0 [.ref oo, .int t] [] w Q := by
  have h0 := C.1
  have h41 := C.o41
  have z1 : ¬ (1 : Int32) = 0 := by decide
  have u4 := U4 hp
  unfold paA at K
  by_cases a2 : hB t
  · simp only [if_pos a2] at K
    simp only [q69_0, q69_1, q69_4, q69_7, q69_10, q69_11, q69_12, q69_15, q69_16, q69_19, gF0, gF1, gF2, gF3, gF4, gF5, gF6, gF7, gF8, gF9, gF10, gF11, gF12, gF13, gF14, gF15, gF16, gF17, gF18, gF19, pF0, pF1, pF2, pF3, pF4, pF5, pF6, pF7, pF8, pF9, pF10, pF11, pF12, pF13, pF14, pF15, pF16, pF17, pF18, pF19, aI_mk, aL_mk, aA_mk, sI_mk, sL_mk, sA_mk, isO_mk, rl_some, rl_none, true_and, and_true, true_or, or_true, wr_1, c87, bI_t a2, z1, not_false_eq_true, if_true, h0, oC, h41]
    refine c34w C v hp (fun w2 N2 S2 M2 V2 f2 C2 Z2 E => ?_)
    have KK := K w2 (f2.up (by omega) (by omega)) C2
    have g0 := C2.1
    have g1 := C2.2.1.1
    obtain ⟨y0, -, -, -, -, y5⟩ := Z2
    by_cases e : deD d U = 0
    · rw [if_pos e] at KK
      simp only [q69_22, q69_25, q69_28, gF0, gF1, gF2, gF3, gF4, gF5, gF6, gF7, gF8, gF9, gF10, gF11, gF12, gF13, gF14, gF15, gF16, gF17, gF18, gF19, pF0, pF1, pF2, pF3, pF4, pF5, pF6, pF7, pF8, pF9, pF10, pF11, pF12, pF13, pF14, pF15, pF16, pF17, pF18, pF19, aI_mk, aL_mk, aA_mk, sI_mk, sL_mk, sA_mk, isO_mk, rl_some, rl_none, true_and, and_true, true_or, or_true, wr_1, bI_f (fun q : ¬ deD d U = 0 => q e), not_true, if_false]
      exact KK
    · rw [if_neg e] at KK
      by_cases a0 : U = 4
      · rw [if_pos a0] at KK
        have p0 := u4.mpr a0
        simp only [q69_22, q69_25, q69_28, q69_29, q69_30, q69_33, q69_36, q69_39, q69_40, q69_41, q69_42, q69_45, gF0, gF1, gF2, gF3, gF4, gF5, gF6, gF7, gF8, gF9, gF10, gF11, gF12, gF13, gF14, gF15, gF16, gF17, gF18, gF19, pF0, pF1, pF2, pF3, pF4, pF5, pF6, pF7, pF8, pF9, pF10, pF11, pF12, pF13, pF14, pF15, pF16, pF17, pF18, pF19, aI_mk, aL_mk, aA_mk, sI_mk, sL_mk, sA_mk, isO_mk, rl_some, rl_none, true_and, and_true, true_or, or_true, wr_1, bI_t e, z1, not_false_eq_true, if_true, p0, not_true, if_false, g0, oC, g1, c90]
        exact KK
      · rw [if_neg a0] at KK
        have p0 : ¬ dp d = 0 := fun q => a0 (u4.mp q)
        have hx4 : x_pl 4 5 := x_pl_nI (j := 4) (by omega) (by omega)
        have ev : V2 4 = nuD d U 4 := E e 4 (by have := hp.2; omega)
        simp only [q69_22, q69_25, q69_28, q69_29, q69_30, q69_33, q69_36, q69_39, q69_40, q69_41, q69_42, q69_45, q69_46, q69_47, q69_50, q69_53, q69_54, q69_55, q69_56, q69_59, q69_62, q69_63, q69_66, gF0, gF1, gF2, gF3, gF4, gF5, gF6, gF7, gF8, gF9, gF10, gF11, gF12, gF13, gF14, gF15, gF16, gF17, gF18, gF19, pF0, pF1, pF2, pF3, pF4, pF5, pF6, pF7, pF8, pF9, pF10, pF11, pF12, pF13, pF14, pF15, pF16, pF17, pF18, pF19, aI_mk, aL_mk, aA_mk, sI_mk, sL_mk, sA_mk, isO_mk, rl_some, rl_none, true_and, and_true, true_or, or_true, wr_1, bI_t e, z1, not_false_eq_true, if_true, p0, g0, oC, g1, y0, y5, hx4, Int32.reduceToNatClampNeg, ev, c90]
        exact KK
  · have KK := K w fr.rf C
    rw [if_neg a2] at KK
    simp only [q69_0, q69_1, q69_4, q69_7, q69_10, gF0, gF1, gF2, gF3, gF4, gF5, gF6, gF7, gF8, gF9, gF10, gF11, gF12, gF13, gF14, gF15, gF16, gF17, gF18, gF19, pF0, pF1, pF2, pF3, pF4, pF5, pF6, pF7, pF8, pF9, pF10, pF11, pF12, pF13, pF14, pF15, pF16, pF17, pF18, pF19, aI_mk, aL_mk, aA_mk, sI_mk, sL_mk, sA_mk, isO_mk, rl_some, rl_none, true_and, and_true, true_or, or_true, wr_1, c87, bI_f a2, not_true, if_false]
    exact KK
theorem c70 (C : cW oo w d k H cf len) (v : vC d k H cf len) (hp : isU (dp d) U) {r q t : Int32} (K : ∀ w2, fr w w2 oo (oo + 51) → cW oo w2 d k H cf len → Q (some (.long (reA d U r q t))) w2) : Wp 70 b 0 [.ref oo, .int r, .int q, .int t] [] w Q := by
  have h0 := C.1
  have h1 := C.2.1.1
  have h41 := C.o41
  have hn := v.n
  have z1 : ¬ (1 : Int32) = 0 := by decide
  unfold reA at K
  by_cases a1 : hG d r q
  · by_cases a2 : hB t
    · simp only [if_pos (And.intro a1 a2)] at K
      obtain ⟨i, hi, er⟩ := row_of hn a1.1.1 a1.1.2
      have hcl : (nI i).toNatClampNeg = i := cl_nI (by omega)
      obtain ⟨t1, t2⟩ := v.t hi
      have a3 := a1.2
      rw [er, hcl, t1] at a3
      obtain ⟨j, hj, eq⟩ := row_of (n := tkF (dt d) i) (by omega) a3.1 a3.2
      have hclj : (nI j).toNatClampNeg = j := cl_nI (by omega)
      have e1 := bI_t a1
      subst er
      subst eq
      rw [hcl, hclj] at K
      simp only [q70_0, q70_1, q70_4, q70_5, q70_6, q70_9, q70_12, q70_13, q70_16, q70_19, q70_22, q70_23, q70_24, q70_27, q70_28, q70_31, gF0, gF1, gF2, gF3, gF4, gF5, gF6, gF7, gF8, gF9, gF10, gF11, gF12, gF13, gF14, gF15, gF16, gF17, gF18, gF19, pF0, pF1, pF2, pF3, pF4, pF5, pF6, pF7, pF8, pF9, pF10, pF11, pF12, pF13, pF14, pF15, pF16, pF17, pF18, pF19, aI_mk, aL_mk, aA_mk, sI_mk, sL_mk, sA_mk, isO_mk, rl_some, rl_none, true_and, and_true, true_or, or_true, wr_1, c4 C.2.1 hn, e1, c87, bI_t a2, z1, not_false_eq_true, if_true, if_false, h0, oC, h1, h41]
      refine c34w C v hp (fun w2 N2 S2 M2 V2 f2 C2 Z2 E => ?_)
      have KK := K w2 (f2.up (by omega) (by omega)) C2
      have g0 := C2.1
      have g41 := C2.o41
      have y0 := Z2.1
      by_cases e : deD d U = 0
      · rw [if_pos e] at KK
        simp only [q70_34, q70_37, q70_40, gF0, gF1, gF2, gF3, gF4, gF5, gF6, gF7, gF8, gF9, gF10, gF11, gF12, gF13, gF14, gF15, gF16, gF17, gF18, gF19, pF0, pF1, pF2, pF3, pF4, pF5, pF6, pF7, pF8, pF9, pF10, pF11, pF12, pF13, pF14, pF15, pF16, pF17, pF18, pF19, aI_mk, aL_mk, aA_mk, sI_mk, sL_mk, sA_mk, isO_mk, rl_some, rl_none, true_and, and_true, true_or, or_true, wr_1, bI_f (fun q : ¬ deD d U = 0 => q e), not_true, if_false]
        exact KK
      · rw [if_neg e] at KK
        have ev : rsF (ds d) (dl d) (dr d) (dm d) U (deD d U) V2 i j = rsD d U i j := rsF_k (E e) i j
        simp only [q70_34, q70_37, q70_40, q70_41, q70_42, q70_45, q70_46, q70_49, q70_50, q70_51, q70_54, q70_55, q70_58, q70_61, q70_62, q70_65, gF0, gF1, gF2, gF3, gF4, gF5, gF6, gF7, gF8, gF9, gF10, gF11, gF12, gF13, gF14, gF15, gF16, gF17, gF18, gF19, pF0, pF1, pF2, pF3, pF4, pF5, pF6, pF7, pF8, pF9, pF10, pF11, pF12, pF13, pF14, pF15, pF16, pF17, pF18, pF19, aI_mk, aL_mk, aA_mk, sI_mk, sL_mk, sA_mk, isO_mk, rl_some, rl_none, true_and, and_true, true_or, or_true, wr_1, bI_t e, z1, not_false_eq_true, if_true, g0, oC, y0, c36 C2.2.1 Z2 hp.or (show i < 12 by omega) (show j < 6 by omega), ev, c90]
        exact KK
    · have KK := K w fr.rf C
      rw [if_neg (fun q => a2 q.2)] at KK
      simp only [q70_0, q70_1, q70_4, q70_5, q70_6, q70_9, q70_12, q70_13, q70_16, q70_19, q70_22, gF0, gF1, gF2, gF3, gF4, gF5, gF6, gF7, gF8, gF9, gF10, gF11, gF12, gF13, gF14, gF15, gF16, gF17, gF18, gF19, pF0, pF1, pF2, pF3, pF4, pF5, pF6, pF7, pF8, pF9, pF10, pF11, pF12, pF13, pF14, pF15, pF16, pF17, pF18, pF19, aI_mk, aL_mk, aA_mk, sI_mk, sL_mk, sA_mk, isO_mk, rl_some, rl_none, true_and, and_true, true_or, or_true, wr_1, c4 C.2.1 hn, bI_t a1, c87, bI_f a2, z1, not_true, if_false, h0, oC, h1]
      exact KK
  · have KK := K w fr.rf C
    rw [if_neg (fun q => a1 q.1)] at KK
    simp only [q70_0, q70_1, q70_4, q70_5, q70_6, q70_9, q70_12, q70_13, q70_16, q70_19, q70_22, gF0, gF1, gF2, gF3, gF4, gF5, gF6, gF7, gF8, gF9, gF10, gF11, gF12, gF13, gF14, gF15, gF16, gF17, gF18, gF19, pF0, pF1, pF2, pF3, pF4, pF5, pF6, pF7, pF8, pF9, pF10, pF11, pF12, pF13, pF14, pF15, pF16, pF17, pF18, pF19, aI_mk, aL_mk, aA_mk, sI_mk, sL_mk, sA_mk, isO_mk, rl_some, rl_none, true_and, and_true, true_or, or_true, wr_1, c4 C.2.1 hn, bI_f a1, if_true, h0, oC, h1]
    exact KK
theorem c71 (C : cW oo w d k H cf len) (v : vC d k H cf len) (hp : isU (dp d) U) {a t : Int32} (K : ∀ w2, fr w w2 oo (oo + 51) → cW oo w2 d k H cf len → Q (some (.long (baA d U a t))) w2) : Wp 71 b 0 [.ref oo, .int a, .int t] [] w Q := by
  have h0 := C.1
  have h41 := C.o41
  have z1 : ¬ (1 : Int32) = 0 := by decide
  unfold baA at K
  by_cases a1 : hA a
  · by_cases a2 : hB t
    · simp only [if_pos (And.intro a1 a2)] at K
      simp only [q71_0, q71_1, q71_4, q71_7, q71_8, q71_11, q71_14, q71_17, q71_18, q71_19, q71_22, q71_23, q71_26, gF0, gF1, gF2, gF3, gF4, gF5, gF6, gF7, gF8, gF9, gF10, gF11, gF12, gF13, gF14, gF15, gF16, gF17, gF18, gF19, pF0, pF1, pF2, pF3, pF4, pF5, pF6, pF7, pF8, pF9, pF10, pF11, pF12, pF13, pF14, pF15, pF16, pF17, pF18, pF19, aI_mk, aL_mk, aA_mk, sI_mk, sL_mk, sA_mk, isO_mk, rl_some, rl_none, true_and, and_true, true_or, or_true, wr_1, c86, bI_t a1, c87, bI_t a2, z1, not_false_eq_true, if_true, if_false, h0, oC, h41]
      refine c34w C v hp (fun w2 N2 S2 M2 V2 f2 C2 Z2 E => ?_)
      have KK := K w2 (f2.up (by omega) (by omega)) C2
      have g0 := C2.1
      have y0 := Z2.1
      by_cases e : deD d U = 0
      · rw [if_pos e] at KK
        simp only [q71_29, q71_32, q71_35, gF0, gF1, gF2, gF3, gF4, gF5, gF6, gF7, gF8, gF9, gF10, gF11, gF12, gF13, gF14, gF15, gF16, gF17, gF18, gF19, pF0, pF1, pF2, pF3, pF4, pF5, pF6, pF7, pF8, pF9, pF10, pF11, pF12, pF13, pF14, pF15, pF16, pF17, pF18, pF19, aI_mk, aL_mk, aA_mk, sI_mk, sL_mk, sA_mk, isO_mk, rl_some, rl_none, true_and, and_true, true_or, or_true, wr_1, bI_f (fun q : ¬ deD d U = 0 => q e), not_true, if_false]
        exact KK
      · rw [if_neg e] at KK
        have ev : foldN (blF (ds d) (dl d) (dr d) (dt d) (dm d) U (deD d U) V2 a) (dn d) 0 0 = blD d U a := blF_k (E e) _ _ _
        simp only [q71_29, q71_32, q71_35, q71_36, q71_37, q71_40, q71_41, q71_44, q71_45, q71_48, q71_49, q71_52, q71_55, q71_56, q71_59, gF0, gF1, gF2, gF3, gF4, gF5, gF6, gF7, gF8, gF9, gF10, gF11, gF12, gF13, gF14, gF15, gF16, gF17, gF18, gF19, pF0, pF1, pF2, pF3, pF4, pF5, pF6, pF7, pF8, pF9, pF10, pF11, pF12, pF13, pF14, pF15, pF16, pF17, pF18, pF19, aI_mk, aL_mk, aA_mk, sI_mk, sL_mk, sA_mk, isO_mk, rl_some, rl_none, true_and, and_true, true_or, or_true, wr_1, bI_t e, z1, not_false_eq_true, if_true, g0, oC, y0, c37 C2.2.1 Z2 hp.or v.1, ev, c90]
        exact KK
    · have KK := K w fr.rf C
      rw [if_neg (fun q => a2 q.2)] at KK
      simp only [q71_0, q71_1, q71_4, q71_7, q71_8, q71_11, q71_14, q71_17, gF0, gF1, gF2, gF3, gF4, gF5, gF6, gF7, gF8, gF9, gF10, gF11, gF12, gF13, gF14, gF15, gF16, gF17, gF18, gF19, pF0, pF1, pF2, pF3, pF4, pF5, pF6, pF7, pF8, pF9, pF10, pF11, pF12, pF13, pF14, pF15, pF16, pF17, pF18, pF19, aI_mk, aL_mk, aA_mk, sI_mk, sL_mk, sA_mk, isO_mk, rl_some, rl_none, true_and, and_true, true_or, or_true, wr_1, c86, bI_t a1, c87, bI_f a2, z1, not_true, if_false]
      exact KK
  · have KK := K w fr.rf C
    rw [if_neg (fun q => a1 q.1)] at KK
    simp only [q71_0, q71_1, q71_4, q71_7, q71_8, q71_11, q71_14, q71_17, gF0, gF1, gF2, gF3, gF4, gF5, gF6, gF7, gF8, gF9, gF10, gF11, gF12, gF13, gF14, gF15, gF16, gF17, gF18, gF19, pF0, pF1, pF2, pF3, pF4, pF5, pF6, pF7, pF8, pF9, pF10, pF11, pF12, pF13, pF14, pF15, pF16, pF17, pF18, pF19, aI_mk, aL_mk, aA_mk, sI_mk, sL_mk, sA_mk, isO_mk, rl_some, rl_none, true_and, and_true, true_or, or_true, wr_1, c86, bI_f a1, if_true]
    exact KK
theorem c72 (C : cW oo w d k H cf len) (v : vC d k H cf len) {r t : Int32} (K : ∀ w2, fr w w2 oo (oo + 51) → cW oo w2 d k H cf len → Q (some (.long (meA d r t))) w2) : Wp 72 b 0 [.ref oo, .int r, .int t] [] w Q := by
  have h0 := C.1
  obtain ⟨h1, -, -, h4, -⟩ := C.2.1
  have hn := v.n
  have z1 : ¬ (1 : Int32) = 0 := by decide
  have KK := K w fr.rf C
  unfold meA at KK
  by_cases a1 : hR d r
  · by_cases a2 : hB t
    · obtain ⟨i, hi, er⟩ := row_of hn a1.1 a1.2
      have hcl : (nI i).toNatClampNeg = i := cl_nI (by omega)
      have hx : x_pl (nI i) 12 := x_pl_nI (by omega) (by omega)
      obtain ⟨t1, t2⟩ := v.t hi
      have e1 := bI_t a1
      rw [if_pos ⟨a1, a2⟩] at KK
      subst er
      rw [hcl] at KK
      by_cases a3 : dt d i = 0
      · rw [if_pos a3] at KK
        simp only [q72_0, q72_1, q72_4, q72_5, q72_8, q72_11, q72_12, q72_15, q72_18, q72_21, q72_22, q72_23, q72_26, q72_29, q72_30, q72_31, q72_34, q72_37, gF0, gF1, gF2, gF3, gF4, gF5, gF6, gF7, gF8, gF9, gF10, gF11, gF12, gF13, gF14, gF15, gF16, gF17, gF18, gF19, pF0, pF1, pF2, pF3, pF4, pF5, pF6, pF7, pF8, pF9, pF10, pF11, pF12, pF13, pF14, pF15, pF16, pF17, pF18, pF19, aI_mk, aL_mk, aA_mk, sI_mk, sL_mk, sA_mk, isO_mk, rl_some, rl_none, true_and, and_true, true_or, or_true, wr_1, c3 C.2.1, e1, c87, bI_t a2, z1, not_false_eq_true, if_true, if_false, h0, oC, h1, h4, hx, hcl, a3, not_true]
        exact KK
      · rw [if_neg a3] at KK
        simp only [q72_0, q72_1, q72_4, q72_5, q72_8, q72_11, q72_12, q72_15, q72_18, q72_21, q72_22, q72_23, q72_26, q72_29, q72_30, q72_31, q72_34, q72_37, q72_38, q72_39, q72_42, q72_43, q72_46, q72_47, q72_48, q72_51, q72_54, q72_55, q72_56, q72_57, q72_58, q72_61, gF0, gF1, gF2, gF3, gF4, gF5, gF6, gF7, gF8, gF9, gF10, gF11, gF12, gF13, gF14, gF15, gF16, gF17, gF18, gF19, pF0, pF1, pF2, pF3, pF4, pF5, pF6, pF7, pF8, pF9, pF10, pF11, pF12, pF13, pF14, pF15, pF16, pF17, pF18, pF19, aI_mk, aL_mk, aA_mk, sI_mk, sL_mk, sA_mk, isO_mk, rl_some, rl_none, true_and, and_true, true_or, or_true, wr_1, c3 C.2.1, e1, c87, bI_t a2, z1, not_false_eq_true, if_true, if_false, h0, oC, h1, h4, hx, hcl, a3, c14 C.2.1 (show i < 12 by omega) t1 t2, c90]
        exact KK
    · rw [if_neg (fun q => a2 q.2)] at KK
      simp only [q72_0, q72_1, q72_4, q72_5, q72_8, q72_11, q72_12, q72_15, q72_18, q72_21, gF0, gF1, gF2, gF3, gF4, gF5, gF6, gF7, gF8, gF9, gF10, gF11, gF12, gF13, gF14, gF15, gF16, gF17, gF18, gF19, pF0, pF1, pF2, pF3, pF4, pF5, pF6, pF7, pF8, pF9, pF10, pF11, pF12, pF13, pF14, pF15, pF16, pF17, pF18, pF19, aI_mk, aL_mk, aA_mk, sI_mk, sL_mk, sA_mk, isO_mk, rl_some, rl_none, true_and, and_true, true_or, or_true, wr_1, c3 C.2.1, bI_t a1, c87, bI_f a2, z1, not_true, if_false, h0, oC, h1]
      exact KK
  · rw [if_neg (fun q => a1 q.1)] at KK
    simp only [q72_0, q72_1, q72_4, q72_5, q72_8, q72_11, q72_12, q72_15, q72_18, q72_21, gF0, gF1, gF2, gF3, gF4, gF5, gF6, gF7, gF8, gF9, gF10, gF11, gF12, gF13, gF14, gF15, gF16, gF17, gF18, gF19, pF0, pF1, pF2, pF3, pF4, pF5, pF6, pF7, pF8, pF9, pF10, pF11, pF12, pF13, pF14, pF15, pF16, pF17, pF18, pF19, aI_mk, aL_mk, aA_mk, sI_mk, sL_mk, sA_mk, isO_mk, rl_some, rl_none, true_and, and_true, true_or, or_true, wr_1, c3 C.2.1, bI_f a1, if_true, h0, oC, h1]
    exact KK
theorem x_14p {a : Int32} : (1 ≤ a ∧ a ≤ 4) ↔ (hA a ∧ ¬ a = 0) := by
  unfold hA
  have e0 : a = 0 ↔ a.toInt = 0 := ⟨fun q => by rw [q]; rfl, fun q => Int32.toInt_inj.mp q⟩
  rw [e0, Int32.le_iff_toInt_le, Int32.le_iff_toInt_le, Int32.le_iff_toInt_le, show (0 : Int32).toInt = 0 from rfl, show (1 : Int32).toInt = 1 from rfl, show (4 : Int32).toInt = 4 from rfl]
  omega
theorem c74 (C : cW oo w d k H cf len) (v : vC d k H cf len) (hp : isU (dp d) U) {r q a t : Int32} (K : ∀ w2, fr w w2 oo (oo + 51) → cW oo w2 d k H cf len → Q (some (.long (wiA d U r q a t))) w2) : Wp 74 b 0 [.ref oo, .int r, .int q, .int a, .int t] [] w Q := by
  have h0 := C.1
  have h1 := C.2.1.1
  have h41 := C.o41
  have hn := v.n
  have z1 : ¬ (1 : Int32) = 0 := by decide
  unfold wiA at K
  by_cases a1 : hG d r q
  · by_cases a5 : hA a
    · by_cases a6 : a = 0
      · have KK := K w fr.rf C
        rw [if_neg (fun q => (x_14p.mp q.2.1).2 a6)] at KK
        simp only [q74_0, q74_1, q74_4, q74_5, q74_6, q74_9, q74_12, q74_13, q74_16, q74_19, q74_20, q74_23, q74_25, q74_28, q74_31, q74_34, gF0, gF1, gF2, gF3, gF4, gF5, gF6, gF7, gF8, gF9, gF10, gF11, gF12, gF13, gF14, gF15, gF16, gF17, gF18, gF19, pF0, pF1, pF2, pF3, pF4, pF5, pF6, pF7, pF8, pF9, pF10, pF11, pF12, pF13, pF14, pF15, pF16, pF17, pF18, pF19, aI_mk, aL_mk, aA_mk, sI_mk, sL_mk, sA_mk, isO_mk, rl_some, rl_none, true_and, and_true, true_or, or_true, wr_1, c4 C.2.1 hn, bI_t a1, c86, bI_t a5, z1, a6, if_true, if_false, h0, oC, h1]
        rw [a6] at a5
        simp only [q74_0, q74_1, q74_4, q74_5, q74_6, q74_9, q74_12, q74_13, q74_16, q74_19, q74_20, q74_23, q74_25, q74_28, q74_31, q74_34, gF0, gF1, gF2, gF3, gF4, gF5, gF6, gF7, gF8, gF9, gF10, gF11, gF12, gF13, gF14, gF15, gF16, gF17, gF18, gF19, pF0, pF1, pF2, pF3, pF4, pF5, pF6, pF7, pF8, pF9, pF10, pF11, pF12, pF13, pF14, pF15, pF16, pF17, pF18, pF19, aI_mk, aL_mk, aA_mk, sI_mk, sL_mk, sA_mk, isO_mk, rl_some, rl_none, true_and, and_true, true_or, or_true, wr_1, c86, bI_t a5, z1, if_true, if_false]
        exact KK
      · by_cases a2 : hB t
        · have ok : hG d r q ∧ (1 ≤ a ∧ a ≤ 4) ∧ hB t := ⟨a1, x_14p.mpr ⟨a5, a6⟩, a2⟩
          simp only [if_pos ok] at K
          obtain ⟨i, hi, er⟩ := row_of hn a1.1.1 a1.1.2
          have hcl : (nI i).toNatClampNeg = i := cl_nI (by omega)
          obtain ⟨t1, t2⟩ := v.t hi
          have a3 := a1.2
          rw [er, hcl, t1] at a3
          obtain ⟨j, hj, eq⟩ := row_of (n := tkF (dt d) i) (by omega) a3.1 a3.2
          have hclj : (nI j).toNatClampNeg = j := cl_nI (by omega)
          have e1 := bI_t a1
          subst er
          subst eq
          rw [hcl, hclj] at K
          simp only [q74_0, q74_1, q74_4, q74_5, q74_6, q74_9, q74_12, q74_13, q74_16, q74_19, q74_20, q74_23, q74_25, q74_28, q74_31, q74_34, q74_35, q74_36, q74_39, q74_40, q74_43, q74_44, q74_45, gF0, gF1, gF2, gF3, gF4, gF5, gF6, gF7, gF8, gF9, gF10, gF11, gF12, gF13, gF14, gF15, gF16, gF17, gF18, gF19, pF0, pF1, pF2, pF3, pF4, pF5, pF6, pF7, pF8, pF9, pF10, pF11, pF12, pF13, pF14, pF15, pF16, pF17, pF18, pF19, aI_mk, aL_mk, aA_mk, sI_mk, sL_mk, sA_mk, isO_mk, rl_some, rl_none, true_and, and_true, true_or, or_true, wr_1, c4 C.2.1 hn, e1, c86, bI_t a5, a6, c87, bI_t a2, z1, not_false_eq_true, if_true, if_false, h0, oC, h1, h41]
          refine c35w C v hp hi (show j < 6 by omega) (fun w2 N2 S2 M2 V2 f2 C2 Z2 E => ?_)
          have KK := K w2 (f2.up (by omega) (by omega)) C2
          have g0 := C2.1
          obtain ⟨y0, -, -, -, -, y5⟩ := Z2
          by_cases e : deO d U i = 0
          · rw [if_pos e] at KK
            simp only [q74_48, q74_51, q74_54, gF0, gF1, gF2, gF3, gF4, gF5, gF6, gF7, gF8, gF9, gF10, gF11, gF12, gF13, gF14, gF15, gF16, gF17, gF18, gF19, pF0, pF1, pF2, pF3, pF4, pF5, pF6, pF7, pF8, pF9, pF10, pF11, pF12, pF13, pF14, pF15, pF16, pF17, pF18, pF19, aI_mk, aL_mk, aA_mk, sI_mk, sL_mk, sA_mk, isO_mk, rl_some, rl_none, true_and, and_true, true_or, or_true, wr_1, bI_f (fun q : ¬ deO d U i = 0 => q e), not_true, if_false]
            exact KK
          · rw [if_neg e] at KK
            obtain ⟨z, hz, ez⟩ := row4 a5
            obtain ⟨z', rfl⟩ : ∃ j, z = j + 1 := ⟨z - 1, by
              have : z ≠ 0 := fun q => a6 (by rw [ez, q]; rfl)
              omega⟩
            have ej : nI (z' + 1) - 1 = nI z' := nI_pred z'
            have hxz : x_pl (nI z') 5 := x_pl_nI (by omega) (by omega)
            have hclz : (nI z').toNatClampNeg = z' := cl_nI (by omega)
            have hclz1 : (nI (z' + 1)).toNatClampNeg = z' + 1 := cl_nI (by omega)
            have ev : V2 z' = nuO d U i j z' := E e z' (by have := hp.2; omega)
            subst ez
            rw [hclz1, Nat.add_sub_cancel] at KK
            simp only [q74_48, q74_51, q74_54, q74_55, q74_56, q74_59, q74_62, q74_63, q74_64, q74_65, q74_66, q74_67, q74_70, q74_73, q74_75, q74_78, gF0, gF1, gF2, gF3, gF4, gF5, gF6, gF7, gF8, gF9, gF10, gF11, gF12, gF13, gF14, gF15, gF16, gF17, gF18, gF19, pF0, pF1, pF2, pF3, pF4, pF5, pF6, pF7, pF8, pF9, pF10, pF11, pF12, pF13, pF14, pF15, pF16, pF17, pF18, pF19, aI_mk, aL_mk, aA_mk, sI_mk, sL_mk, sA_mk, isO_mk, rl_some, rl_none, true_and, and_true, true_or, or_true, wr_1, bI_t e, z1, not_false_eq_true, if_true, g0, oC, y0, y5, ej, hxz, hclz, ev, c90]
            exact KK
        · have KK := K w fr.rf C
          rw [if_neg (fun q => a2 q.2.2)] at KK
          simp only [q74_0, q74_1, q74_4, q74_5, q74_6, q74_9, q74_12, q74_13, q74_16, q74_19, q74_20, q74_23, q74_25, q74_28, q74_31, q74_34, gF0, gF1, gF2, gF3, gF4, gF5, gF6, gF7, gF8, gF9, gF10, gF11, gF12, gF13, gF14, gF15, gF16, gF17, gF18, gF19, pF0, pF1, pF2, pF3, pF4, pF5, pF6, pF7, pF8, pF9, pF10, pF11, pF12, pF13, pF14, pF15, pF16, pF17, pF18, pF19, aI_mk, aL_mk, aA_mk, sI_mk, sL_mk, sA_mk, isO_mk, rl_some, rl_none, true_and, and_true, true_or, or_true, wr_1, c4 C.2.1 hn, bI_t a1, c86, bI_t a5, a6, c87, bI_f a2, z1, not_true, if_false, h0, oC, h1]
          exact KK
    · have KK := K w fr.rf C
      rw [if_neg (fun q => a5 (x_14p.mp q.2.1).1)] at KK
      simp only [q74_0, q74_1, q74_4, q74_5, q74_6, q74_9, q74_12, q74_13, q74_16, q74_19, q74_20, q74_23, q74_25, q74_28, q74_31, q74_34, gF0, gF1, gF2, gF3, gF4, gF5, gF6, gF7, gF8, gF9, gF10, gF11, gF12, gF13, gF14, gF15, gF16, gF17, gF18, gF19, pF0, pF1, pF2, pF3, pF4, pF5, pF6, pF7, pF8, pF9, pF10, pF11, pF12, pF13, pF14, pF15, pF16, pF17, pF18, pF19, aI_mk, aL_mk, aA_mk, sI_mk, sL_mk, sA_mk, isO_mk, rl_some, rl_none, true_and, and_true, true_or, or_true, wr_1, c4 C.2.1 hn, bI_t a1, c86, bI_f a5, z1, if_true, if_false, h0, oC, h1]
      exact KK
  · have KK := K w fr.rf C
    rw [if_neg (fun q => a1 q.1)] at KK
    simp only [q74_0, q74_1, q74_4, q74_5, q74_6, q74_9, q74_12, q74_13, q74_16, q74_19, q74_20, q74_23, q74_25, q74_28, q74_31, q74_34, gF0, gF1, gF2, gF3, gF4, gF5, gF6, gF7, gF8, gF9, gF10, gF11, gF12, gF13, gF14, gF15, gF16, gF17, gF18, gF19, pF0, pF1, pF2, pF3, pF4, pF5, pF6, pF7, pF8, pF9, pF10, pF11, pF12, pF13, pF14, pF15, pF16, pF17, pF18, pF19, aI_mk, aL_mk, aA_mk, sI_mk, sL_mk, sA_mk, isO_mk, rl_some, rl_none, true_and, and_true, true_or, or_true, wr_1, c4 C.2.1 hn, bI_f a1, if_true, h0, oC, h1]
    exact KK
theorem c76 (C : cW oo w d k H cf len) (v : vC d k H cf len) {r t : Int32} (K : ∀ w2, fr w w2 oo (oo + 51) → cW oo w2 d k H cf len → Q (some (.long (pbA d r t))) w2) : Wp 76 b 0 [.ref oo, .int r, .int t, x_no] [] w Q := by
  have h0 := C.1
  have h1 := C.2.1.1
  have hn := v.n
  have z1 : ¬ (1 : Int32) = 0 := by decide
  have KK := K w fr.rf C
  unfold pbA at KK
  by_cases a1 : hR d r
  · by_cases a2 : hB t
    · obtain ⟨i, hi, er⟩ := row_of hn a1.1 a1.2
      have hcl : (nI i).toNatClampNeg = i := cl_nI (by omega)
      have e1 := bI_t a1
      rw [if_pos ⟨a1, a2⟩] at KK
      subst er
      rw [hcl] at KK
      rcases swF_or (dn d) (dl d) (dr d) (dt d) i with a3 | ⟨j, hj, a3, -, -⟩
      · rw [if_pos a3] at KK
        simp only [q76_0, q76_1, q76_4, q76_5, q76_8, q76_11, q76_12, q76_15, q76_18, q76_21, q76_22, q76_23, q76_26, q76_27, q76_30, q76_31, q76_32, q76_33, q76_36, q76_39, gF0, gF1, gF2, gF3, gF4, gF5, gF6, gF7, gF8, gF9, gF10, gF11, gF12, gF13, gF14, gF15, gF16, gF17, gF18, gF19, pF0, pF1, pF2, pF3, pF4, pF5, pF6, pF7, pF8, pF9, pF10, pF11, pF12, pF13, pF14, pF15, pF16, pF17, pF18, pF19, aI_mk, aL_mk, aA_mk, sI_mk, sL_mk, sA_mk, isO_mk, rl_some, rl_none, true_and, and_true, true_or, or_true, wr_1, c3 C.2.1, e1, c87, bI_t a2, z1, not_false_eq_true, if_true, if_false, h0, oC, h1, c20 C.2.1 hn (show i < 12 by omega), a3, not_true]
        exact KK
      · have n1 : ¬ nI j = -1 := nI_m1 (by omega)
        have hclj : (nI j).toNatClampNeg = j := cl_nI (by omega)
        rw [a3, if_neg n1, hclj] at KK
        simp only [q76_0, q76_1, q76_4, q76_5, q76_8, q76_11, q76_12, q76_15, q76_18, q76_21, q76_22, q76_23, q76_26, q76_27, q76_30, q76_31, q76_32, q76_33, q76_36, q76_39, q76_40, q76_41, q76_44, q76_45, q76_46, q76_49, q76_52, q76_53, q76_56, q76_57, q76_58, q76_61, q76_62, q76_63, q76_66, gF0, gF1, gF2, gF3, gF4, gF5, gF6, gF7, gF8, gF9, gF10, gF11, gF12, gF13, gF14, gF15, gF16, gF17, gF18, gF19, pF0, pF1, pF2, pF3, pF4, pF5, pF6, pF7, pF8, pF9, pF10, pF11, pF12, pF13, pF14, pF15, pF16, pF17, pF18, pF19, aI_mk, aL_mk, aA_mk, sI_mk, sL_mk, sA_mk, isO_mk, rl_some, rl_none, true_and, and_true, true_or, or_true, wr_1, c3 C.2.1, e1, c87, bI_t a2, z1, not_false_eq_true, if_true, if_false, h0, oC, h1, c20 C.2.1 hn (show i < 12 by omega), a3, n1, c22 C.2.1 v.1 hi hj, c23 C.2.1 (show i < 12 by omega) (show j < 12 by omega), c90]
        exact KK
    · rw [if_neg (fun q => a2 q.2)] at KK
      simp only [q76_0, q76_1, q76_4, q76_5, q76_8, q76_11, q76_12, q76_15, q76_18, q76_21, gF0, gF1, gF2, gF3, gF4, gF5, gF6, gF7, gF8, gF9, gF10, gF11, gF12, gF13, gF14, gF15, gF16, gF17, gF18, gF19, pF0, pF1, pF2, pF3, pF4, pF5, pF6, pF7, pF8, pF9, pF10, pF11, pF12, pF13, pF14, pF15, pF16, pF17, pF18, pF19, aI_mk, aL_mk, aA_mk, sI_mk, sL_mk, sA_mk, isO_mk, rl_some, rl_none, true_and, and_true, true_or, or_true, wr_1, c3 C.2.1, bI_t a1, c87, bI_f a2, z1, not_true, if_false, h0, oC, h1]
      exact KK
  · rw [if_neg (fun q => a1 q.1)] at KK
    simp only [q76_0, q76_1, q76_4, q76_5, q76_8, q76_11, q76_12, q76_15, q76_18, q76_21, gF0, gF1, gF2, gF3, gF4, gF5, gF6, gF7, gF8, gF9, gF10, gF11, gF12, gF13, gF14, gF15, gF16, gF17, gF18, gF19, pF0, pF1, pF2, pF3, pF4, pF5, pF6, pF7, pF8, pF9, pF10, pF11, pF12, pF13, pF14, pF15, pF16, pF17, pF18, pF19, aI_mk, aL_mk, aA_mk, sI_mk, sL_mk, sA_mk, isO_mk, rl_some, rl_none, true_and, and_true, true_or, or_true, wr_1, c3 C.2.1, bI_f a1, if_true, h0, oC, h1]
    exact KK
end FE
