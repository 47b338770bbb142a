theorem t_pa_pa {m : xM} {f g : Int32} : (m.s_pa f).s_pa g = m.s_pa g := id rfl
theorem t_pa_self {m : xM} : m.s_pa m.pa = m := id rfl
theorem x_bsh : ∀ S, S < 32 → ∀ d, d < 5 → (nI S >>> (nI d &&& 31) = 0 ↔ S < 2 ^ d) ∧ nI S ||| ((1 : Int32) <<< (nI d &&& 31)) = nI (S ||| 2 ^ d) ∧ nI S ||| nI (2 ^ d) = nI (S ||| 2 ^ d) ∧ (S < 2 ^ d → 2 ^ d ≤ S ||| 2 ^ d ∧ S ||| 2 ^ d < 2 ^ (d + 1)) := by decide +kernel
theorem x_ch5 {c : Int32} (h : 48 ≤ c ∧ c ≤ 52) : ∃ d, d < 5 ∧ c = nI (48 + d) := by
  obtain ⟨h1, h2⟩ := h
  rw [Int32.le_iff_toInt_le, show (48 : Int32).toInt = 48 from rfl] at h1
  rw [Int32.le_iff_toInt_le, show (52 : Int32).toInt = 52 from rfl] at h2
  refine ⟨c.toInt.toNat - 48, by omega, Int32.toInt_inj.mp ?_⟩
  rw [nI_toInt (by omega)]
  omega
theorem rm_take {cf : Nat → Int32} {len p d : Nat} (hd : d < 5) (hc : chF cf len p = nI (48 + d)) : ∀ (k m : Nat) (s : Int32), m + k = 5 → m ≤ d → rmF cf len k m p s = rmF cf len (5 - (d + 1)) (d + 1) (p + 1) (s ||| nI (2 ^ d)) := by
  intro k
  induction k with
  | zero =>
    intro m s h1 h2
    omega
  | succ k ih =>
    intro m s h1 h2
    by_cases e : m = d
    · subst e
      have : rmF cf len (k + 1) m p s = rmF cf len k (m + 1) (p + 1) (s ||| nI (2 ^ m)) := if_pos hc
      rw [this, show 5 - (m + 1) = k by omega]
    · have : rmF cf len (k + 1) m p s = rmF cf len k (m + 1) p s := if_neg (by
        rw [hc, nI_eq' (by omega) (by omega)]
        omega)
      rw [this]
      exact ih (m + 1) s (by omega) (by omega)
theorem rm_stop {cf : Nat → Int32} {len p : Nat} : ∀ (k m : Nat) (s : Int32), m + k = 5 → (∀ d, m ≤ d → d < 5 → ¬ chF cf len p = nI (48 + d)) → rmF cf len k m p s = (s, p) := by
  intro k
  induction k with
  | zero => exact fun _ _ _ _ => rfl
  | succ k ih =>
    intro m s h1 h2
    have : rmF cf len (k + 1) m p s = rmF cf len k (m + 1) p s := if_neg (h2 m (Nat.le_refl _) (by omega))
    rw [this]
    exact ih (m + 1) s (by omega) (fun d h3 h4 => h2 d (by omega) h4)
section MRD
variable {b : Nat} {m : xM} {n U len : Nat} {Q : Option Value → xW → Prop}
theorem isM.pa1 {w : xW} {x : Int32} (D : isM w (m.s_pa x)) (y : Int32) : isM (wr w 51 (.inr (6, [.ref 52, .ref 53, .int (nI m.st), .ref 54, .ref 55, .int (nI m.ty), .int y, .int m.le, .int m.ri, .int m.re, .int m.rs, .ref 56, .int m.wr, .int m.wd, .ref 57, .ref 58, .long m.be, .ref 59, .long m.up, .long m.dn]))) (m.s_pa y) := by
  have D1 := D.o_pa y
  rw [t_pa_pa] at D1
  simp only [s_pa_df, s_pa_wf, s_pa_st, s_pa_af, s_pa_cf, s_pa_ty, s_pa_pa, s_pa_le, s_pa_ri, s_pa_re, s_pa_rs, s_pa_nf, s_pa_wr, s_pa_wd, s_pa_mf, s_pa_vf, s_pa_be, s_pa_fa, s_pa_up, s_pa_dn] at D1
  exact D1
theorem isM.pa0 {w : xW} {x : Int32} (D : isM w (m.s_pa x)) : rd w 51 = .inr (6, [.ref 52, .ref 53, .int (nI m.st), .ref 54, .ref 55, .int (nI m.ty), .int x, .int m.le, .int m.ri, .int m.re, .int m.rs, .ref 56, .int m.wr, .int m.wd, .ref 57, .ref 58, .long m.be, .ref 59, .long m.up, .long m.dn]) ∧ rd w 55 = .inl (2, 80, .inl m.cf) := by
  obtain ⟨h0, -, -, -, h4, -⟩ := D
  simp only [oM, s_pa_df, s_pa_wf, s_pa_st, s_pa_af, s_pa_cf, s_pa_ty, s_pa_pa, s_pa_le, s_pa_ri, s_pa_re, s_pa_rs, s_pa_nf, s_pa_wr, s_pa_wd, s_pa_mf, s_pa_vf, s_pa_be, s_pa_fa, s_pa_up, s_pa_dn] at h0 h4
  exact ⟨h0, h4⟩
/-- a character of the text is passed, if it stands here -/
theorem c145 {w : xW} {p : Nat} {c : Int32} (D : isM w (m.s_pa (nI p))) (hl : m.ty = len) (h80 : len ≤ 80) (hp : p ≤ 80) (hc0 : ¬ c = 0) (K0 : ∀ w2, ¬ chF m.cf len p = c → fr w w2 51 60 → isM w2 (m.s_pa (nI p)) → Q (some (.int 0)) w2) (K1 : ∀ w2, chF m.cf len p = c → p < len → fr w w2 51 60 → isM w2 (m.s_pa (nI (p + 1))) → Q (some (.int 1)) w2) : Wp 145 b 0 [.ref 51, .int c, x_no] [] w Q := by
  obtain ⟨h0, h4⟩ := D.pa0
  have z1 : ¬ (1 : Int32) = 0 := by decide
  by_cases q : p < len
  · have hc : ¬ nI m.ty ≤ nI p := by rw [hl, nI_le' (by omega) (by omega)]; omega
    have hx : x_pl (nI p) 80 := x_pl_nI (by omega) (by omega)
    have hcl : (nI p).toNatClampNeg = p := cl_nI (by omega)
    have ec : chF m.cf len p = m.cf p := if_pos q
    by_cases e : m.cf p = c
    · have := K1 _ (ec.trans e) q (fr.wr (by omega) (by omega)) (D.pa1 (nI (p + 1)))
      simp only [q145_0, q145_1, q145_4, q145_5, q145_8, q145_11, q145_12, q145_15, q145_16, q145_19, q145_20, q145_21, q145_24, q145_25, q145_28, q145_29, q145_30, q145_31, q145_32, q145_35, q145_36, q145_39, q145_40, q145_43, q145_44, q145_45, q145_48, q145_49, gF0, gF1, gF2, gF3, gF4, gF5, gF6, gF7, gF8, gF9, gF10, gF11, gF12, gF13, gF14, gF15, gF16, gF17, gF18, gF19, pF0, pF1, pF2, pF3, pF4, pF5, pF6, pF7, pF8, pF9, pF10, pF11, pF12, pF13, pF14, pF15, pF16, pF17, pF18, pF19, aI_mk, aL_mk, aA_mk, sI_mk, sL_mk, sA_mk, isO_mk, rl_some, rl_none, true_and, and_true, true_or, or_true, wr_1, h0, h4, if_neg hc, hx, hcl, e, not_true, if_false, z1, nI_1, o_01]
      exact this
    · have := K0 _ (fun z => e (ec.symm.trans z)) (fr.wr (by omega) (by omega)) (D.pa1 (nI p))
      simp only [q145_0, q145_1, q145_4, q145_5, q145_8, q145_11, q145_12, q145_15, q145_16, q145_19, q145_20, q145_21, q145_24, q145_25, q145_28, q145_29, q145_30, q145_31, q145_32, q145_35, q145_36, q145_39, q145_40, q145_43, q145_44, q145_45, q145_48, q145_49, gF0, gF1, gF2, gF3, gF4, gF5, gF6, gF7, gF8, gF9, gF10, gF11, gF12, gF13, gF14, gF15, gF16, gF17, gF18, gF19, pF0, pF1, pF2, pF3, pF4, pF5, pF6, pF7, pF8, pF9, pF10, pF11, pF12, pF13, pF14, pF15, pF16, pF17, pF18, pF19, aI_mk, aL_mk, aA_mk, sI_mk, sL_mk, sA_mk, isO_mk, rl_some, rl_none, true_and, and_true, true_or, or_true, wr_1, h0, h4, if_neg hc, hx, hcl, e, not_false_eq_true, if_true, Int32.add_zero, z_01]
      exact this
  · have hc : nI m.ty ≤ nI p := by rw [hl]; exact nI_le (by omega) (by omega)
    have ec : chF m.cf len p = 0 := if_neg q
    have := K0 _ (fun z => hc0 (z.symm.trans ec)) (fr.wr (by omega) (by omega)) (D.pa1 (nI p))
    simp only [q145_0, q145_1, q145_4, q145_5, q145_8, q145_11, q145_12, q145_15, q145_16, q145_19, q145_20, q145_21, q145_24, q145_25, q145_28, q145_29, q145_30, q145_31, q145_32, q145_35, q145_36, q145_39, q145_40, q145_43, q145_44, q145_45, q145_48, q145_49, gF0, gF1, gF2, gF3, gF4, gF5, gF6, gF7, gF8, gF9, gF10, gF11, gF12, gF13, gF14, gF15, gF16, gF17, gF18, gF19, pF0, pF1, pF2, pF3, pF4, pF5, pF6, pF7, pF8, pF9, pF10, pF11, pF12, pF13, pF14, pF15, pF16, pF17, pF18, pF19, aI_mk, aL_mk, aA_mk, sI_mk, sL_mk, sA_mk, isO_mk, rl_some, rl_none, true_and, and_true, true_or, or_true, wr_1, h0, h4, if_pos hc, if_true, Int32.add_zero, z_01]
    exact this
theorem l146 (hl : m.ty = len) (h80 : len ≤ 80) : ∀ (k j p S : Nat) (w : xW), j + k = 5 → p ≤ 80 → S < 2 ^ j → (j = 0 ∨ 2 ^ (j - 1) ≤ S) → isM w (m.s_pa (nI p)) → (∀ w2, fr w w2 51 60 → isM w2 (m.s_pa (nI (rmF m.cf len k j p (nI S)).2)) → (rmF m.cf len k j p (nI S)).2 ≤ 80 → p ≤ (rmF m.cf len k j p (nI S)).2 → Q (some (.int (rmF m.cf len k j p (nI S)).1)) w2) → Wp 146 b 2 [.ref 51, .int (nI S)] [] w Q := by
  have hP : ∀ j, j ≤ 5 → 2 ^ j ≤ 32 := by decide
  have hM : ∀ i, i < 5 → ∀ j, j ≤ 5 → i < j → 2 ^ i ≤ 2 ^ (j - 1) := by decide
  have hL : ∀ i, i < 5 → ∀ j, j ≤ 5 → j ≤ i → 2 ^ j ≤ 2 ^ i := by decide
  intro k
  induction k using Nat.strongRecOn with
  | ind k ih =>
    intro j p S w hj hp hS hS2 D K
    have hP2 := hP j (by omega)
    obtain ⟨h0, h4⟩ := D.pa0
    have stop : (∀ d, j ≤ d → d < 5 → ¬ chF m.cf len p = nI (48 + d)) → Q (some (.int (nI S))) w := by
      intro z
      have e := rm_stop (cf := m.cf) (len := len) (p := p) k j (nI S) hj z
      rw [e] at K
      exact K w fr.rf D hp (Nat.le_refl _)
    by_cases q : p < len
    · have hc : ¬ nI m.ty ≤ nI p := by rw [hl, nI_le' (by omega) (by omega)]; omega
      have hx : x_pl (nI p) 80 := x_pl_nI (by omega) (by omega)
      have hcl : (nI p).toNatClampNeg = p := cl_nI (by omega)
      have ec : chF m.cf len p = m.cf p := if_pos q
      by_cases c5 : 48 ≤ m.cf p ∧ m.cf p ≤ 52
      · obtain ⟨d, hd, ed⟩ := x_ch5 c5
        obtain ⟨b1, b2, b3, b4⟩ := x_bsh S (by omega) d hd
        have e48 : nI (48 + d) - 48 = nI d := by
          rw [show (48 : Int32) = nI 48 from rfl, pk_sub (by omega)]
          exact congrArg nI (by omega)
        have z1 : ¬ (1 : Int32) = 0 := by decide
        rw [ed] at c5
        by_cases c6 : S < 2 ^ d
        · have hjd : j ≤ d := by
            rcases Nat.lt_or_ge d j with z | z
            · exfalso
              have := hM d hd j (by omega) z
              omega
            · exact z
          have e := rm_take (cf := m.cf) (len := len) (p := p) hd (ec.trans ed) k j (nI S) hj hjd
          rw [b3] at e
          have e1 : Nat.lt (5 - (d + 1)) k := by
            show 5 - (d + 1) < k
            omega
          obtain ⟨b5, b6⟩ := b4 c6
          have R := ih (5 - (d + 1)) e1 (d + 1) (p + 1) (S ||| 2 ^ d) _ (by omega) (by omega) b6 (Or.inr b5) (D.pa1 (nI (p + 1))) (fun w3 f3 D3 h3 l3 => by
            rw [e] at K
            exact K w3 ((fr.wr (by omega) (by omega)).tr f3) D3 h3 (by omega))
          rw [← b1] at c6
          simp only [q146_2]
          simp only [q146_3, q146_6, q146_7, q146_10, q146_13, q146_14, q146_17, q146_18, q146_21, q146_22, q146_24, q146_26, q146_29, q146_32, q146_33, q146_34, q146_37, q146_38, q146_41, q146_42, q146_44, q146_45, q146_46, q146_49, q146_50, q146_51, q146_52, q146_55, q146_56, q146_59, q146_60, q146_62, q146_63, q146_64, q146_65, q146_66, q146_67, q146_68, q146_71, q146_72, q146_73, q146_76, gF0, gF1, gF2, gF3, gF4, gF5, gF6, gF7, gF8, gF9, gF10, gF11, gF12, gF13, gF14, gF15, gF16, gF17, gF18, gF19, pF0, pF1, pF2, pF3, pF4, pF5, pF6, pF7, pF8, pF9, pF10, pF11, pF12, pF13, pF14, pF15, pF16, pF17, pF18, pF19, aI_mk, aL_mk, aA_mk, sI_mk, sL_mk, sA_mk, isO_mk, rl_some, rl_none, true_and, and_true, true_or, or_true, wr_1, h0, h4, if_neg hc, hx, hcl, ed, c93, bI_t c5, z1, if_false, e48, c6, not_true, b2, nI_1]
          exact R
        · have S1 := stop (fun d2 h1 h2 z => by
            rw [ec, ed, nI_eq' (by omega) (by omega)] at z
            have : d2 = d := by omega
            subst this
            have := hL d2 h2 j (by omega) h1
            omega)
          rw [← b1] at c6
          simp only [q146_2]
          simp only [q146_3, q146_6, q146_7, q146_10, q146_13, q146_14, q146_17, q146_18, q146_21, q146_22, q146_24, q146_26, q146_29, q146_32, q146_33, q146_34, q146_37, q146_38, q146_41, q146_42, q146_44, q146_45, q146_46, q146_49, q146_50, q146_51, q146_52, q146_55, q146_56, q146_59, q146_60, q146_62, q146_63, q146_64, q146_65, q146_66, q146_67, q146_68, q146_71, q146_72, q146_73, q146_76, q146_79, q146_80, gF0, gF1, gF2, gF3, gF4, gF5, gF6, gF7, gF8, gF9, gF10, gF11, gF12, gF13, gF14, gF15, gF16, gF17, gF18, gF19, pF0, pF1, pF2, pF3, pF4, pF5, pF6, pF7, pF8, pF9, pF10, pF11, pF12, pF13, pF14, pF15, pF16, pF17, pF18, pF19, aI_mk, aL_mk, aA_mk, sI_mk, sL_mk, sA_mk, isO_mk, rl_some, rl_none, true_and, and_true, true_or, or_true, wr_1, h0, h4, if_neg hc, hx, hcl, ed, c93, bI_t c5, z1, if_false, e48, c6, not_false_eq_true, if_true]
          exact S1
      · have S1 := stop (fun d2 h1 h2 z => by
          rw [ec] at z
          rw [z] at c5
          refine c5 ⟨?_, ?_⟩
          · rw [show (48 : Int32) = nI 48 from rfl, nI_le' (by omega) (by omega)]
            omega
          · rw [show (52 : Int32) = nI 52 from rfl, nI_le' (by omega) (by omega)]
            omega)
        simp only [q146_2]
        simp only [q146_3, q146_6, q146_7, q146_10, q146_13, q146_14, q146_17, q146_18, q146_21, q146_22, q146_24, q146_26, q146_29, q146_79, q146_80, gF0, gF1, gF2, gF3, gF4, gF5, gF6, gF7, gF8, gF9, gF10, gF11, gF12, gF13, gF14, gF15, gF16, gF17, gF18, gF19, pF0, pF1, pF2, pF3, pF4, pF5, pF6, pF7, pF8, pF9, pF10, pF11, pF12, pF13, pF14, pF15, pF16, pF17, pF18, pF19, aI_mk, aL_mk, aA_mk, sI_mk, sL_mk, sA_mk, isO_mk, rl_some, rl_none, true_and, and_true, true_or, or_true, wr_1, h0, h4, if_neg hc, hx, hcl, c93, bI_f c5, if_true]
        exact S1
    · have hc : nI m.ty ≤ nI p := by rw [hl]; exact nI_le (by omega) (by omega)
      have ec : chF m.cf len p = 0 := if_neg q
      have S1 := stop (fun d2 h1 h2 z => by
        rw [ec, show (0 : Int32) = nI 0 from rfl, nI_eq' (by omega) (by omega)] at z
        omega)
      simp only [q146_2]
      simp only [q146_3, q146_6, q146_7, q146_10, q146_79, q146_80, gF0, gF1, gF2, gF3, gF4, gF5, gF6, gF7, gF8, gF9, gF10, gF11, gF12, gF13, gF14, gF15, gF16, gF17, gF18, gF19, pF0, pF1, pF2, pF3, pF4, pF5, pF6, pF7, pF8, pF9, pF10, pF11, pF12, pF13, pF14, pF15, pF16, pF17, pF18, pF19, aI_mk, aL_mk, aA_mk, sI_mk, sL_mk, sA_mk, isO_mk, rl_some, rl_none, true_and, and_true, true_or, or_true, wr_1, h0, if_pos hc]
      exact S1
theorem c146 {w : xW} {p : Nat} (D : isM w (m.s_pa (nI p))) (hl : m.ty = len) (h80 : len ≤ 80) (hp : p ≤ 80) (K : ∀ w2, fr w w2 51 60 → isM w2 (m.s_pa (nI (rmF m.cf len 5 0 p 0).2)) → (rmF m.cf len 5 0 p 0).2 ≤ 80 → p ≤ (rmF m.cf len 5 0 p 0).2 → Q (some (.int (rmF m.cf len 5 0 p 0).1)) w2) : Wp 146 b 0 [.ref 51, x_no] [] w Q := by
  rw [q146_0, q146_1]
  exact l146 hl h80 5 0 p 0 w (by omega) hp (by decide) (Or.inl rfl) D K
theorem c144 {w : xW} (D : isM w m) (K : ∀ w2, fr w w2 51 60 → isM w2 (m.s_ty 0) → Q (some (.int (nI m.ty))) w2) : Wp 144 b 0 [.ref 51, x_no] [] w Q := by
  have h0 := D.1
  have := K _ (fr.wr (by omega) (by omega)) (D.o_ty 0)
  simp only [q144_0, q144_1, q144_4, q144_5, q144_6, q144_7, q144_10, q144_11, gF0, gF1, gF2, gF3, gF4, gF5, gF6, gF7, gF8, gF9, gF10, gF11, gF12, gF13, gF14, gF15, gF16, gF17, gF18, gF19, pF0, pF1, pF2, pF3, pF4, pF5, pF6, pF7, pF8, pF9, pF10, pF11, pF12, pF13, pF14, pF15, pF16, pF17, pF18, pF19, aI_mk, aL_mk, aA_mk, sI_mk, sL_mk, sA_mk, isO_mk, rl_some, rl_none, true_and, and_true, true_or, or_true, wr_1, h0, oM]
  exact this
end MRD
