theorem t_T_df {m : xM} {a b c d e : Int32} {g : Nat → Int32} : (m.s_T a b c d e).s_df g = (m.s_df g).s_T a b c d e := id rfl
/-- the reference's design and rows' number after a reading is taken in the row with these sets -/
def mtF (d : Nat → Int32) (n : Nat) (x y a : Int32) : Option ((Nat → Int32) × Nat) :=
  if fndN (fun j => decide (lD d j = x ∧ rD d j = y)) n 0 = -1 then (if n = 12 then none else some (tcF (adF d n x y) n 0 a, n + 1))
  else if tkF (tD d) (fndN (fun j => decide (lD d j = x ∧ rD d j = y)) n 0).toNatClampNeg = 6 then none
  else some (tcF d (fndN (fun j => decide (lD d j = x ∧ rD d j = y)) n 0).toNatClampNeg (tkF (tD d) (fndN (fun j => decide (lD d j = x ∧ rD d j = y)) n 0).toNatClampNeg) a, n)
theorem vM_ad {d : Nat → Int32} {n : Nat} {x y : Int32} (v : vM d n) (hn : n < 12) : vM (adF d n x y) (n + 1) := by
  obtain ⟨v0, v1, v2⟩ := v
  refine ⟨pk_us, by omega, fun i hi => ?_⟩
  have e : tD (adF d n x y) i = if i = n then 0 else tD d i := by
    show adF d n x y (28 + i) = _
    unfold adF
    rw [pk_un (by omega)]
    by_cases c : i = n
    · rw [if_pos c, c, pk_us]
    · rw [if_neg c, pk_un (by omega), pk_un (by omega), pk_un (by omega)]
      rfl
  unfold tkF
  rw [e]
  by_cases c : i = n
  · rw [if_pos c]
    exact ⟨by decide, by decide⟩
  · rw [if_neg c]
    exact v2 i (by omega)
theorem vM_tc {d : Nat → Int32} {n i t : Nat} {a : Int32} (v : vM d n) (hi : i < n) (ht : t < 6) : vM (tcF d i t a) n := by
  obtain ⟨v0, v1, v2⟩ := v
  refine ⟨?_, v1, fun j hj => ?_⟩
  · unfold tcF
    rw [pk_un (by omega), pk_un (by omega), v0]
  have e : tD (tcF d i t a) j = if j = i then nI (t + 1) else tD d j := by
    show tcF d i t a (28 + j) = _
    unfold tcF
    by_cases c : j = i
    · rw [if_pos c, c, pk_us]
    · rw [if_neg c, pk_un (by omega), pk_un (by omega)]
      rfl
  unfold tkF
  rw [e]
  by_cases c : j = i
  · rw [if_pos c, cl_nI (by omega)]
    exact ⟨rfl, by omega⟩
  · rw [if_neg c]
    exact v2 j hj
/-- one row of a text, on the reference's side -/
def msF (cf : Nat → Int32) (len n : Nat) (d : Nat → Int32) (p : Nat) : Int32 × (Nat → Int32) × Nat × Nat := match prF cf len p with
  | none => (1, d, n, p)
  | some z => if ¬ (z.1.1 &&& z.1.2.1 = 0) then (2, d, n, p) else if ¬ (-100000 ≤ z.1.2.2 ∧ z.1.2.2 ≤ 100000) then (3, d, n, p) else match mtF d n z.1.1 z.1.2.1 z.1.2.2 with
    | none => (4, d, n, p)
    | some q => (0, q.1, q.2, z.2)
section MRH
variable {b : Nat} {m : xM} {n U len : Nat} {Q : Option Value → xW → Prop} {le ri re rs : Int32}
theorem e87 {w : xW} {d : Nat → Int32} {pa z : Int32} {i : Nat} (D : isM w ((m.s_df d).s_T pa le ri re rs)) (v : vM d n) (hi : i < n) (ht : tkF (tD d) i < 6) (hz : z = nI i) (K : ∀ w2, fr w w2 51 60 → isM w2 ((m.s_df (tcF d i (tkF (tD d) i) re)).s_T pa le ri re rs) → Q (some (.int 0)) w2) : Wp 148 b 87 [.ref 51, .int z] [] w Q := by
  subst hz
  have h0 := D.T0.1
  have hn := v.2.1
  have t1 : d (28 + i) = nI (tkF (tD d) i) := (v.2.2 i hi).1
  have hm : ¬ nI i = -1 := nI_m1 (by omega)
  simp only [q148_87, q148_88, q148_89, q148_90, q148_108, q148_109, q148_110, q148_113, gF0, gF1, gF2, gF3, gF4, gF5, gF6, gF7, gF8, gF9, gF10, gF11, gF12, gF13, gF14, gF15, gF16, gF17, gF18, gF19, pF0, pF1, pF2, pF3, pF4, pF5, pF6, pF7, pF8, pF9, pF10, pF11, pF12, pF13, pF14, pF15, pF16, pF17, pF18, pF19, aI_mk, aL_mk, aA_mk, sI_mk, sL_mk, sA_mk, isO_mk, rl_some, rl_none, true_and, and_true, true_or, or_true, wr_1, h0, hm, not_false_eq_true, if_true]
  refine c116 D (i := i) (t := tkF (tD d) i) (by omega) (by simp only [s_T_df, s_df_df]; exact t1) ht (fun w2 f2 D2 => ?_)
  rw [t_T_df, t_df_df] at D2
  simp only [s_T_df, s_df_df] at D2
  simp only [q148_116, q148_117, q148_118, gF0, gF1, gF2, gF3, gF4, gF5, gF6, gF7, gF8, gF9, gF10, gF11, gF12, gF13, gF14, gF15, gF16, gF17, gF18, gF19, pF0, pF1, pF2, pF3, pF4, pF5, pF6, pF7, pF8, pF9, pF10, pF11, pF12, pF13, pF14, pF15, pF16, pF17, pF18, pF19, aI_mk, aL_mk, aA_mk, sI_mk, sL_mk, sA_mk, isO_mk, rl_some, rl_none, true_and, and_true, true_or, or_true, wr_1]
  exact K w2 f2 D2
theorem c148 {w : xW} {p : Nat} {d : Nat → Int32} (D : isM w ((m.s_df d).s_T (nI p) le ri re rs)) (v : vM d n) (hl : m.ty = len) (h80 : len ≤ 80) (hp : p ≤ 80) (K : ∀ w2 p2 le2 ri2 re2, fr w w2 51 60 → p2 ≤ 80 → isM w2 ((m.s_df (msF m.cf len n d p).2.1).s_T (nI p2) le2 ri2 re2 rs) → ((msF m.cf len n d p).1 = 0 → p2 = (msF m.cf len n d p).2.2.2 ∧ p < p2) → vM (msF m.cf len n d p).2.1 (msF m.cf len n d p).2.2.1 → Q (some (.int (msF m.cf len n d p).1)) w2) : Wp 148 b 0 [.ref 51, x_no] [] w Q := by
  have z1 : ¬ (1 : Int32) = 0 := by decide
  have h0 := D.T0.1
  simp only [q148_0, q148_1, gF0, gF1, gF2, gF3, gF4, gF5, gF6, gF7, gF8, gF9, gF10, gF11, gF12, gF13, gF14, gF15, gF16, gF17, gF18, gF19, pF0, pF1, pF2, pF3, pF4, pF5, pF6, pF7, pF8, pF9, pF10, pF11, pF12, pF13, pF14, pF15, pF16, pF17, pF18, pF19, aI_mk, aL_mk, aA_mk, sI_mk, sL_mk, sA_mk, isO_mk, rl_some, rl_none, true_and, and_true, true_or, or_true, wr_1, h0]
  refine c147 D (len := len) (by rw [s_df_ty, hl]) h80 hp (fun w2 p2 le2 ri2 re2 hP f2 hp2 D2 => ?_) (fun w2 z hP f2 hp2 hlt D2 => ?_)
  · simp only [s_df_cf] at hP
    have e : msF m.cf len n d p = (1, d, n, p) := by
      unfold msF
      rw [hP]
    rw [e] at K
    have := K w2 p2 le2 ri2 re2 f2 hp2 D2 (fun q => absurd (show (1 : Int32) = 0 from q) z1) v
    simp only [q148_4, q148_7, q148_8, gF0, gF1, gF2, gF3, gF4, gF5, gF6, gF7, gF8, gF9, gF10, gF11, gF12, gF13, gF14, gF15, gF16, gF17, gF18, gF19, pF0, pF1, pF2, pF3, pF4, pF5, pF6, pF7, pF8, pF9, pF10, pF11, pF12, pF13, pF14, pF15, pF16, pF17, pF18, pF19, aI_mk, aL_mk, aA_mk, sI_mk, sL_mk, sA_mk, isO_mk, rl_some, rl_none, true_and, and_true, true_or, or_true, wr_1, not_true, if_false]
    exact this
  · simp only [s_df_cf] at hP
    have e0 : msF m.cf len n d p = if ¬ (z.1.1 &&& z.1.2.1 = 0) then ((2 : Int32), d, n, p) else if ¬ (-100000 ≤ z.1.2.2 ∧ z.1.2.2 ≤ 100000) then (3, d, n, p) else match mtF d n z.1.1 z.1.2.1 z.1.2.2 with
      | none => (4, d, n, p)
      | some q => (0, q.1, q.2, z.2) := by
      unfold msF
      rw [hP]
    generalize msF m.cf len n d p = R at e0 K
    have h2 := D2.T0.1
    have hd2 := D2.T0.2.2
    rw [s_df_df] at hd2
    have v0 := v.1
    have hn := v.2.1
    by_cases c1 : z.1.1 &&& z.1.2.1 = 0
    · rw [if_neg (fun q => q c1)] at e0
      by_cases c2 : -100000 ≤ z.1.2.2 ∧ z.1.2.2 ≤ 100000
      · rw [if_neg (fun q => q c2)] at e0
        have eD : ((m.s_df d).s_T (nI z.2) z.1.1 z.1.2.1 z.1.2.2 rs).df = d := by simp only [s_T_df, s_df_df]
        have v2 : vM ((m.s_df d).s_T (nI z.2) z.1.1 z.1.2.1 z.1.2.2 rs).df n := by
          rw [eD]
          exact v
        have hc := c112 (b := w2.1) (x := z.1.1) (y := z.1.2.1) (Q := fun o w => Wp 148 b 51 [.ref 51, x_no] (rl o []) w Q) D2 v2
        rw [eD] at hc
        simp only [q148_4, q148_7, q148_8, q148_9, q148_10, q148_13, q148_14, q148_17, q148_18, q148_21, q148_22, q148_23, q148_24, q148_27, q148_29, q148_31, q148_34, q148_37, q148_38, q148_39, q148_40, q148_41, q148_44, q148_45, q148_48, gF0, gF1, gF2, gF3, gF4, gF5, gF6, gF7, gF8, gF9, gF10, gF11, gF12, gF13, gF14, gF15, gF16, gF17, gF18, gF19, pF0, pF1, pF2, pF3, pF4, pF5, pF6, pF7, pF8, pF9, pF10, pF11, pF12, pF13, pF14, pF15, pF16, pF17, pF18, pF19, aI_mk, aL_mk, aA_mk, sI_mk, sL_mk, sA_mk, isO_mk, rl_some, rl_none, true_and, and_true, true_or, or_true, wr_1, z1, not_false_eq_true, if_true, h2, c1, c93, bI_t c2]
        rw [hc]
        have hz := fndN_or (P := fun j => decide (lD d j = z.1.1 ∧ rD d j = z.1.2.1)) n 0
        unfold mtF at e0
        generalize fndN (fun j => decide (lD d j = z.1.1 ∧ rD d j = z.1.2.1)) n 0 = y at hz e0 ⊢
        rcases hz with e | ⟨j, -, hj, -, e⟩
        · rw [if_pos e] at e0
          have e12 : nI n = 12 ↔ n = 12 := nI_eq' (b := 12) (by omega) (by omega)
          subst e
          by_cases c3 : n = 12
          · rw [if_pos c3] at e0
            have e0 : R = (4, d, n, p) := e0
            rw [e0] at K
            have := K w2 z.2 z.1.1 z.1.2.1 z.1.2.2 f2 hp2 D2 (fun q => absurd (show (4 : Int32) = 0 from q) (by decide)) v
            have e12' := e12.mpr c3
            simp only [q148_51, q148_52, q148_53, q148_54, q148_57, q148_58, q148_61, q148_62, q148_63, q148_65, q148_68, q148_85, q148_86, gF0, gF1, gF2, gF3, gF4, gF5, gF6, gF7, gF8, gF9, gF10, gF11, gF12, gF13, gF14, gF15, gF16, gF17, gF18, gF19, pF0, pF1, pF2, pF3, pF4, pF5, pF6, pF7, pF8, pF9, pF10, pF11, pF12, pF13, pF14, pF15, pF16, pF17, pF18, pF19, aI_mk, aL_mk, aA_mk, sI_mk, sL_mk, sA_mk, isO_mk, rl_some, rl_none, true_and, and_true, true_or, or_true, wr_1, h2, hd2, p112, Int32.reduceToNatClampNeg, v0, e12', not_true, if_false]
            exact this
          · rw [if_neg c3] at e0
            have e0 : R = (0, tcF (adF d n z.1.1 z.1.2.1) n 0 z.1.2.2, n + 1, z.2) := e0
            rw [e0] at K
            have hm : ((-1 : Int32) = -1) ↔ True := ⟨fun _ => trivial, fun _ => rfl⟩
            simp only [q148_51, q148_52, q148_53, q148_54, q148_57, q148_58, q148_61, q148_62, q148_63, q148_65, q148_87, q148_88, q148_89, q148_90, q148_93, q148_94, q148_95, q148_98, q148_99, q148_102, gF0, gF1, gF2, gF3, gF4, gF5, gF6, gF7, gF8, gF9, gF10, gF11, gF12, gF13, gF14, gF15, gF16, gF17, gF18, gF19, pF0, pF1, pF2, pF3, pF4, pF5, pF6, pF7, pF8, pF9, pF10, pF11, pF12, pF13, pF14, pF15, pF16, pF17, pF18, pF19, aI_mk, aL_mk, aA_mk, sI_mk, sL_mk, sA_mk, isO_mk, rl_some, rl_none, true_and, and_true, true_or, or_true, wr_1, h2, hd2, p112, Int32.reduceToNatClampNeg, v0, e12, c3, not_true, not_false_eq_true, if_true, if_false]
            refine c113 D2 (n := n) (by rw [eD]; exact v0) (by omega) (fun w3 f3 D3 => ?_)
            rw [t_T_df, t_df_df, eD] at D3
            have h3 := D3.T0.1
            have t0 : adF d n z.1.1 z.1.2.1 (28 + n) = nI 0 := by
              unfold adF
              rw [pk_un (by omega), pk_us]
              rfl
            simp only [q148_105, q148_108, q148_109, q148_110, q148_113, gF0, gF1, gF2, gF3, gF4, gF5, gF6, gF7, gF8, gF9, gF10, gF11, gF12, gF13, gF14, gF15, gF16, gF17, gF18, gF19, pF0, pF1, pF2, pF3, pF4, pF5, pF6, pF7, pF8, pF9, pF10, pF11, pF12, pF13, pF14, pF15, pF16, pF17, pF18, pF19, aI_mk, aL_mk, aA_mk, sI_mk, sL_mk, sA_mk, isO_mk, rl_some, rl_none, true_and, and_true, true_or, or_true, wr_1, h3]
            refine c116 D3 (i := n) (t := 0) (by omega) (by simp only [s_T_df, s_df_df]; exact t0) (by omega) (fun w4 f4 D4 => ?_)
            rw [t_T_df, t_df_df] at D4
            simp only [s_T_df, s_df_df] at D4
            have := K w4 z.2 z.1.1 z.1.2.1 z.1.2.2 ((f2.tr f3).tr f4) hp2 D4 (fun _ => ⟨rfl, hlt⟩) (vM_tc (n := n + 1) (i := n) (t := 0) (vM_ad v (by omega)) (by omega) (by omega))
            simp only [q148_116, q148_117, q148_118, gF0, gF1, gF2, gF3, gF4, gF5, gF6, gF7, gF8, gF9, gF10, gF11, gF12, gF13, gF14, gF15, gF16, gF17, gF18, gF19, pF0, pF1, pF2, pF3, pF4, pF5, pF6, pF7, pF8, pF9, pF10, pF11, pF12, pF13, pF14, pF15, pF16, pF17, pF18, pF19, aI_mk, aL_mk, aA_mk, sI_mk, sL_mk, sA_mk, isO_mk, rl_some, rl_none, true_and, and_true, true_or, or_true, wr_1]
            exact this
        · have hm : ¬ nI j = -1 := nI_m1 (by omega)
          have hcl : (nI j).toNatClampNeg = j := cl_nI (by omega)
          obtain ⟨t1, t2⟩ := v.2.2 j (by omega)
          have t1' : d (28 + j) = nI (tkF (tD d) j) := t1
          have e6 : nI (tkF (tD d) j) = 6 ↔ tkF (tD d) j = 6 := nI_eq' (b := 6) (by omega) (by omega)
          subst e
          rw [if_neg hm, hcl] at e0
          by_cases c3 : tkF (tD d) j = 6
          · rw [if_pos c3] at e0
            have e0 : R = (4, d, n, p) := e0
            rw [e0] at K
            have := K w2 z.2 z.1.1 z.1.2.1 z.1.2.2 f2 hp2 D2 (fun q => absurd (show (4 : Int32) = 0 from q) (by decide)) v
            have e6' := e6.mpr c3
            simp only [q148_51, q148_52, q148_53, q148_54, q148_71, q148_72, q148_75, q148_77, q148_78, q148_79, q148_80, q148_82, q148_85, q148_86, gF0, gF1, gF2, gF3, gF4, gF5, gF6, gF7, gF8, gF9, gF10, gF11, gF12, gF13, gF14, gF15, gF16, gF17, gF18, gF19, pF0, pF1, pF2, pF3, pF4, pF5, pF6, pF7, pF8, pF9, pF10, pF11, pF12, pF13, pF14, pF15, pF16, pF17, pF18, pF19, aI_mk, aL_mk, aA_mk, sI_mk, sL_mk, sA_mk, isO_mk, rl_some, rl_none, true_and, and_true, true_or, or_true, wr_1, h2, hd2, hm, ix28 (show j < 12 by omega), t1', e6', not_true, not_false_eq_true, if_true, if_false]
            exact this
          · rw [if_neg c3] at e0
            have e0 : R = (0, tcF d j (tkF (tD d) j) z.1.2.2, n, z.2) := e0
            rw [e0] at K
            have r := e87 (b := b) (Q := Q) (z := nI j) D2 v (i := j) (by omega) (by omega) rfl (fun w4 f4 D4 => K w4 z.2 z.1.1 z.1.2.1 z.1.2.2 (f2.tr f4) hp2 D4 (fun _ => ⟨rfl, hlt⟩) (vM_tc (n := n) (i := j) (t := tkF (tD d) j) v (by omega) (by omega)))
            simp only [q148_51, q148_52, q148_53, q148_54, q148_71, q148_72, q148_75, q148_77, q148_78, q148_79, q148_80, q148_82, gF0, gF1, gF2, gF3, gF4, gF5, gF6, gF7, gF8, gF9, gF10, gF11, gF12, gF13, gF14, gF15, gF16, gF17, gF18, gF19, pF0, pF1, pF2, pF3, pF4, pF5, pF6, pF7, pF8, pF9, pF10, pF11, pF12, pF13, pF14, pF15, pF16, pF17, pF18, pF19, aI_mk, aL_mk, aA_mk, sI_mk, sL_mk, sA_mk, isO_mk, rl_some, rl_none, true_and, and_true, true_or, or_true, wr_1, h2, hd2, hm, ix28 (show j < 12 by omega), t1', e6, c3, not_true, not_false_eq_true, if_true, if_false]
            exact r
      · rw [if_pos c2] at e0
        rw [e0] at K
        have := K w2 z.2 z.1.1 z.1.2.1 z.1.2.2 f2 hp2 D2 (fun q => absurd (show (3 : Int32) = 0 from q) (by decide)) v
        simp only [q148_4, q148_7, q148_8, q148_9, q148_10, q148_13, q148_14, q148_17, q148_18, q148_21, q148_22, q148_23, q148_24, q148_27, q148_29, q148_31, q148_34, q148_37, q148_38, gF0, gF1, gF2, gF3, gF4, gF5, gF6, gF7, gF8, gF9, gF10, gF11, gF12, gF13, gF14, gF15, gF16, gF17, gF18, gF19, pF0, pF1, pF2, pF3, pF4, pF5, pF6, pF7, pF8, pF9, pF10, pF11, pF12, pF13, pF14, pF15, pF16, pF17, pF18, pF19, aI_mk, aL_mk, aA_mk, sI_mk, sL_mk, sA_mk, isO_mk, rl_some, rl_none, true_and, and_true, true_or, or_true, wr_1, z1, not_true, not_false_eq_true, if_true, if_false, h2, c1, c93, bI_f c2]
        exact this
    · rw [if_pos c1] at e0
      rw [e0] at K
      have := K w2 z.2 z.1.1 z.1.2.1 z.1.2.2 f2 hp2 D2 (fun q => absurd (show (2 : Int32) = 0 from q) (by decide)) v
      simp only [q148_4, q148_7, q148_8, q148_9, q148_10, q148_13, q148_14, q148_17, q148_18, q148_21, q148_22, gF0, gF1, gF2, gF3, gF4, gF5, gF6, gF7, gF8, gF9, gF10, gF11, gF12, gF13, gF14, gF15, gF16, gF17, gF18, gF19, pF0, pF1, pF2, pF3, pF4, pF5, pF6, pF7, pF8, pF9, pF10, pF11, pF12, pF13, pF14, pF15, pF16, pF17, pF18, pF19, aI_mk, aL_mk, aA_mk, sI_mk, sL_mk, sA_mk, isO_mk, rl_some, rl_none, true_and, and_true, true_or, or_true, wr_1, z1, not_false_eq_true, if_true, if_false, h2, c1]
      exact this
end MRH
