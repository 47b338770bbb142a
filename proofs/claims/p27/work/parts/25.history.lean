/-! History -/
/-- a design's data: settings and rows, and the four rows of cells -/
abbrev DD : Type := (Int32 × Int32 × Int32 × Nat) × (Nat → Int32) × (Nat → Int32) × (Nat → Int32) × (Nat → Int32)
def isDD (w : xW) (o : Nat) (d : DD) : Prop := isD w o d.1.1 d.1.2.1 d.1.2.2.1 d.1.2.2.2 d.2.1 d.2.2.1 d.2.2.2.1 d.2.2.2.2
theorem isDD.fr {w w' : xW} {o lo hi : Nat} {d : DD} (D : isDD w o d) (h : fr w w' lo hi) (ho : o + 5 ≤ lo ∨ hi ≤ o) : isDD w' o d := isD.fr D h ho
/-- two designs are the same, as far as their rows and readings go -/
def eqD (d e : DD) : Prop := d.1 = e.1 ∧ agD e.1.2.2.2 d.2.1 d.2.2.1 d.2.2.2.1 d.2.2.2.2 e.2.1 e.2.2.1 e.2.2.2.1 e.2.2.2.2
def vD (d : DD) : Prop := vT d.1.2.2.2 d.2.2.2.1
theorem eqD.rf {d : DD} : eqD d d := ⟨rfl, fun _ _ => ⟨rfl, rfl, rfl, fun _ _ => rfl⟩⟩
theorem eqD.tr {d e f : DD} (h1 : eqD d e) (h2 : eqD e f) : eqD d f := by
  obtain ⟨a1, a2⟩ := h1
  obtain ⟨b1, b2⟩ := h2
  refine ⟨a1.trans b1, fun j hj => ?_⟩
  obtain ⟨c1, c2, c3, c4⟩ := a2 j (by rw [b1]; exact hj)
  obtain ⟨d1, d2, d3, d4⟩ := b2 j hj
  refine ⟨c1.trans d1, c2.trans d2, c3.trans d3, fun x hx => ?_⟩
  have e0 : tkF e.2.2.2.1 j = tkF f.2.2.2.1 j := by
    unfold tkF
    rw [d3]
  rw [c4 x (by rw [e0]; exact hx), d4 x hx]
theorem eqD.sy {d e : DD} (h : eqD d e) : eqD e d := by
  obtain ⟨a1, a2⟩ := h
  refine ⟨a1.symm, fun j hj => ?_⟩
  rw [a1] at hj
  obtain ⟨c1, c2, c3, c4⟩ := a2 j hj
  refine ⟨c1.symm, c2.symm, c3.symm, fun x hx => (c4 x ?_).symm⟩
  have e0 : tkF d.2.2.2.1 j = tkF e.2.2.2.1 j := by
    unfold tkF
    rw [c3]
  rw [← e0]
  exact hx
theorem eqD.v {d e : DD} (h : eqD d e) (hv : vD e) : vD d := by
  obtain ⟨a1, a2⟩ := h
  obtain ⟨v1, v2⟩ := hv
  unfold vD
  rw [a1]
  refine ⟨v1, fun i hi => ?_⟩
  obtain ⟨-, -, c3, -⟩ := a2 i hi
  have e0 : tkF d.2.2.2.1 i = tkF e.2.2.2.1 i := by
    unfold tkF
    rw [c3]
  rw [c3, e0]
  exact v2 i hi
section HI
variable {w : xW} {b o h k : Nat} {K : Nat → Nat} {d : DD} {Q : Option Value → xW → Prop}
theorem cc1 {o o' : Nat} {d d' : DD} (D : isDD w o d) (D' : isDD w o' d') (hT : vD d') (ho : o + 5 ≤ o' ∨ o' + 5 ≤ o) (K : ∀ w2 d2, fr w w2 o (o + 5) → isDD w2 o d2 → eqD d2 d' → Q none w2) : Wp 1 b 0 [.ref o, .ref o', x_no] [] w Q :=
  c1 D D' hT ho (fun w2 lf2 rf2 tf2 mf2 f2 d2 a2 => K w2 (d'.1, lf2, rf2, tf2, mf2) f2 d2 ⟨rfl, a2⟩)
/-- the history at h: k states; K tells where the five kept designs lie -/
def isH (w : xW) (h k : Nat) (K : Nat → Nat) : Prop := rd w h = .inr (1, [.ref (h + 1), .int (nI k)]) ∧ ∃ kf : Nat → Option Nat, rd w (h + 1) = .inl (3, 5, .inr (.inr (.inr (.inr kf)))) ∧ ∀ i, i < 5 → kf i = some (K i)
theorem isH.fr {w w' : xW} {lo hi : Nat} (D : isH w h k K) (f : fr w w' lo hi) (ho : h + 2 ≤ lo ∨ hi ≤ h) : isH w' h k K := by
  obtain ⟨h0, kf, h1, h2⟩ := D
  exact ⟨(f.2.2 _ (by omega)).trans h0, kf, (f.2.2 _ (by omega)).trans h1, h2⟩
/-- the kept designs lie apart, between h + 2 and hi -/
def apK (h hi : Nat) (K : Nat → Nat) : Prop := (∀ i, i < 5 → h + 2 ≤ K i ∧ K i + 5 ≤ hi) ∧ ∀ i j, i < 5 → j < 5 → i ≠ j → K i + 5 ≤ K j ∨ K j + 5 ≤ K i
def rot (K : Nat → Nat) : Nat → Nat := fun i => if i < 4 then K (i + 1) else K 0
theorem apK_rot {h hi : Nat} (a : apK h hi K) : apK h hi (rot K) := by
  obtain ⟨a1, a2⟩ := a
  exact ⟨fun i hi => by unfold rot; split <;> exact a1 _ (by omega), fun i j hi hj hne => by unfold rot; split <;> split <;> exact a2 _ _ (by omega) (by omega) (by omega)⟩
theorem c28 (D : isH w h (k + 1) K) (ob : ∀ i, i < 5 → x_isO (rd w (K i)) 0) (hK : ∀ i, i < 5 → K i ≠ h + 1) (C : ∀ w2, fr w w2 h (h + 2) → isH w2 h k (rot K) → Q none w2) : Wp 28 b 0 [.ref h, x_no, x_no] [] w Q := by
  obtain ⟨h0, kf, h1, h2⟩ := D
  have e1 : (1 : Int32) + 1 = 2 := by decide
  have e2 : (2 : Int32) + 1 = 3 := by decide
  have e3 : (3 : Int32) + 1 = 4 := by decide
  have e4 : (4 : Int32) + 1 = 5 := by decide
  have m1 : (1 : Int32) - 1 = 0 := by decide
  have m2 : (2 : Int32) - 1 = 1 := by decide
  have m3 : (3 : Int32) - 1 = 2 := by decide
  have m4 : (4 : Int32) - 1 = 3 := by decide
  have g1 : ¬ (5 : Int32) ≤ 1 := by decide
  have g2 : ¬ (5 : Int32) ≤ 2 := by decide
  have g3 : ¬ (5 : Int32) ≤ 3 := by decide
  have g4 : ¬ (5 : Int32) ≤ 4 := by decide
  have g5 : (5 : Int32) ≤ 5 := by decide
  have p0 : x_pl 0 5 := x_pl_nI (j := 0) (by omega) (by omega)
  have p1 : x_pl 1 5 := x_pl_nI (j := 1) (by omega) (by omega)
  have p2 : x_pl 2 5 := x_pl_nI (j := 2) (by omega) (by omega)
  have p3 : x_pl 3 5 := x_pl_nI (j := 3) (by omega) (by omega)
  have p4 : x_pl 4 5 := x_pl_nI (j := 4) (by omega) (by omega)
  have z0 : (0 : Int32).toNatClampNeg = 0 := by decide
  have z1 : (1 : Int32).toNatClampNeg = 1 := by decide
  have z2 : (2 : Int32).toNatClampNeg = 2 := by decide
  have z3 : (3 : Int32).toNatClampNeg = 3 := by decide
  have z4 : (4 : Int32).toNatClampNeg = 4 := by decide
  obtain ⟨f0, q0⟩ := ob 0 (by omega)
  obtain ⟨f1, q1⟩ := ob 1 (by omega)
  obtain ⟨f2, q2⟩ := ob 2 (by omega)
  obtain ⟨f3, q3⟩ := ob 3 (by omega)
  obtain ⟨f4, q4⟩ := ob 4 (by omega)
  have n0 : h ≠ h + 1 := by omega
  have k0 := h2 0 (by omega)
  have k1 := h2 1 (by omega)
  have k2 := h2 2 (by omega)
  have k3 := h2 3 (by omega)
  have k4 := h2 4 (by omega)
  have v1 : va_up kf 0 (some (K 1)) 2 = some (K 2) := k2
  have v2 : va_up (va_up kf 0 (some (K 1))) 1 (some (K 2)) 3 = some (K 3) := k3
  have v3 : va_up (va_up (va_up kf 0 (some (K 1))) 1 (some (K 2))) 2 (some (K 3)) 4 = some (K 4) := k4
  simp only [q28_0, q28_1, q28_4, q28_5, q28_6, q28_7, q28_8, gF0, gF1, gF2, gF3, gF4, gF5, gF6, gF7, gF8, gF9, gF10, gF11, gF12, gF13, gF14, gF15, gF16, gF17, gF18, gF19, pF0, pF1, pF2, pF3, pF4, pF5, pF6, pF7, pF8, pF9, pF10, pF11, pF12, pF13, pF14, pF15, pF16, pF17, pF18, pF19, aI_mk, aL_mk, aA_mk, sI_mk, sL_mk, sA_mk, isO_mk, rl_some, rl_none, true_and, and_true, true_or, or_true, wr_1, h0, h1, p0, z0, k0, Option.some.injEq, exists_eq_left', or_false]
  simp only [q28_9]
  simp only [q28_10, q28_11, q28_14, q28_15, q28_18, q28_19, q28_20, q28_21, q28_22, q28_25, q28_26, q28_27, q28_28, q28_31, gF0, gF1, gF2, gF3, gF4, gF5, gF6, gF7, gF8, gF9, gF10, gF11, gF12, gF13, gF14, gF15, gF16, gF17, gF18, gF19, pF0, pF1, pF2, pF3, pF4, pF5, pF6, pF7, pF8, pF9, pF10, pF11, pF12, pF13, pF14, pF15, pF16, pF17, pF18, pF19, aI_mk, aL_mk, aA_mk, sI_mk, sL_mk, sA_mk, isO_mk, rl_some, rl_none, true_and, and_true, true_or, or_true, wr_1, h0, h1, if_neg g1, m1, p0, p1, z0, z1, k1, Option.some.injEq, exists_eq_left', q1, e1, or_false]
  simp only [q28_9]
  simp only [q28_10, q28_11, q28_14, q28_15, q28_18, q28_19, q28_20, q28_21, q28_22, q28_25, q28_26, q28_27, q28_28, q28_31, gF0, gF1, gF2, gF3, gF4, gF5, gF6, gF7, gF8, gF9, gF10, gF11, gF12, gF13, gF14, gF15, gF16, gF17, gF18, gF19, pF0, pF1, pF2, pF3, pF4, pF5, pF6, pF7, pF8, pF9, pF10, pF11, pF12, pF13, pF14, pF15, pF16, pF17, pF18, pF19, aI_mk, aL_mk, aA_mk, sI_mk, sL_mk, sA_mk, isO_mk, rl_some, rl_none, true_and, and_true, true_or, or_true, wr_1, h0, rd_s, rd_n n0, rd_n (hK 2 (by omega)), if_neg g2, m2, p1, p2, z1, z2, v1, Option.some.injEq, exists_eq_left', q2, e2, or_false]
  simp only [q28_9]
  simp only [q28_10, q28_11, q28_14, q28_15, q28_18, q28_19, q28_20, q28_21, q28_22, q28_25, q28_26, q28_27, q28_28, q28_31, gF0, gF1, gF2, gF3, gF4, gF5, gF6, gF7, gF8, gF9, gF10, gF11, gF12, gF13, gF14, gF15, gF16, gF17, gF18, gF19, pF0, pF1, pF2, pF3, pF4, pF5, pF6, pF7, pF8, pF9, pF10, pF11, pF12, pF13, pF14, pF15, pF16, pF17, pF18, pF19, aI_mk, aL_mk, aA_mk, sI_mk, sL_mk, sA_mk, isO_mk, rl_some, rl_none, true_and, and_true, true_or, or_true, wr_1, h0, rd_s, rd_n n0, rd_n (hK 3 (by omega)), if_neg g3, m3, p2, p3, z2, z3, v2, Option.some.injEq, exists_eq_left', q3, e3, or_false]
  simp only [q28_9]
  simp only [q28_10, q28_11, q28_14, q28_15, q28_18, q28_19, q28_20, q28_21, q28_22, q28_25, q28_26, q28_27, q28_28, q28_31, gF0, gF1, gF2, gF3, gF4, gF5, gF6, gF7, gF8, gF9, gF10, gF11, gF12, gF13, gF14, gF15, gF16, gF17, gF18, gF19, pF0, pF1, pF2, pF3, pF4, pF5, pF6, pF7, pF8, pF9, pF10, pF11, pF12, pF13, pF14, pF15, pF16, pF17, pF18, pF19, aI_mk, aL_mk, aA_mk, sI_mk, sL_mk, sA_mk, isO_mk, rl_some, rl_none, true_and, and_true, true_or, or_true, wr_1, h0, rd_s, rd_n n0, rd_n (hK 4 (by omega)), if_neg g4, m4, p3, p4, z3, z4, v3, Option.some.injEq, exists_eq_left', q4, e4, or_false]
  simp only [q28_9]
  have e5 : nI (k + 1) - 1 = nI k := nI_pred k
  simp only [q28_10, q28_11, q28_34, q28_35, q28_38, q28_39, q28_40, q28_41, q28_42, q28_43, q28_46, q28_47, q28_48, q28_51, gF0, gF1, gF2, gF3, gF4, gF5, gF6, gF7, gF8, gF9, gF10, gF11, gF12, gF13, gF14, gF15, gF16, gF17, gF18, gF19, pF0, pF1, pF2, pF3, pF4, pF5, pF6, pF7, pF8, pF9, pF10, pF11, pF12, pF13, pF14, pF15, pF16, pF17, pF18, pF19, aI_mk, aL_mk, aA_mk, sI_mk, sL_mk, sA_mk, isO_mk, rl_some, rl_none, true_and, and_true, true_or, or_true, wr_1, h0, rd_s, rd_n n0, rd_n (hK 0 (by omega)), if_pos g5, p4, z4, q0, e5]
  refine C _ ?_ ?_
  · exact ((((fr.wr (by omega) (by omega)).tr (fr.wr (by omega) (by omega))).tr (fr.wr (by omega) (by omega))).tr (fr.wr (by omega) (by omega))).tr ((fr.wr (by omega) (by omega)).tr (fr.wr (by omega) (by omega)))
  · refine ⟨rd_s, _, (rd_n (Ne.symm n0)).trans rd_s, fun i hi => ?_⟩
    rcases (show i = 0 ∨ i = 1 ∨ i = 2 ∨ i = 3 ∨ i = 4 by omega) with rfl | rfl | rfl | rfl | rfl <;> rfl
theorem isDD.ob {o : Nat} {d : DD} (D : isDD w o d) : x_isO (rd w o) 0 := ⟨_, D.1⟩
/-- keep: the design at o is kept; of five the oldest one goes -/
theorem c27 {hi : Nat} {H : Nat → DD} (D : isH w h k K) (hk : k ≤ 5) (a : apK h hi K) (P : ∀ i, i < 5 → isDD w (K i) (H i)) (O : isDD w o d) (hv : vD d) (ho : o + 5 ≤ h ∨ hi ≤ o) (C : ∀ (w2 : xW) (k2 : Nat) (K2 : Nat → Nat) (H2 : Nat → DD), fr w w2 h hi → isH w2 h (k2 + 1) K2 → k2 + 1 ≤ 5 → apK h hi K2 → (∀ i, i < 5 → isDD w2 (K2 i) (H2 i)) → ((k < 5 ∧ k2 = k ∧ ∀ i, i < k → H2 i = H i) ∨ (k = 5 ∧ k2 = 4 ∧ ∀ i, i < 4 → H2 i = H (i + 1))) → eqD (H2 k2) d → Q none w2) : Wp 27 b 0 [.ref h, .ref o] [] w Q := by
  have hhi : h + 2 ≤ hi := by have := a.1 0 (by omega); omega
  have main : ∀ (w1 : xW) (k1 : Nat) (K1 : Nat → Nat) (H1 : Nat → DD), k1 < 5 → fr w w1 h hi → isH w1 h k1 K1 → apK h hi K1 → (∀ i, i < 5 → isDD w1 (K1 i) (H1 i)) → ((k < 5 ∧ k1 = k ∧ ∀ i, i < k → H1 i = H i) ∨ (k = 5 ∧ k1 = 4 ∧ ∀ i, i < 4 → H1 i = H (i + 1))) → Wp 27 b 12 [.ref h, .ref o] [] w1 Q := by
    intro w1 k1 K1 H1 hk1 f1 D1 a1 P1 r1
    have D10 := D1
    have O1 : isDD w1 o d := O.fr f1 (by omega)
    obtain ⟨h0, kf, h1, h2⟩ := D1
    have hx : x_pl (nI k1) 5 := x_pl_nI (by omega) (by omega)
    have hcl : (nI k1).toNatClampNeg = k1 := cl_nI (by omega)
    have hob := (P1 k1 hk1).ob
    obtain ⟨fs, hfs⟩ := hob
    simp only [q27_12, q27_13, q27_16, q27_17, q27_20, q27_21, q27_22, gF0, gF1, gF2, gF3, gF4, gF5, gF6, gF7, gF8, gF9, gF10, gF11, gF12, gF13, gF14, gF15, gF16, gF17, gF18, gF19, pF0, pF1, pF2, pF3, pF4, pF5, pF6, pF7, pF8, pF9, pF10, pF11, pF12, pF13, pF14, pF15, pF16, pF17, pF18, pF19, aI_mk, aL_mk, aA_mk, sI_mk, sL_mk, sA_mk, isO_mk, rl_some, rl_none, true_and, and_true, true_or, or_true, wr_1, h0, h1, hx, hcl, h2 k1 hk1, Option.some.injEq, exists_eq_left', or_false, hfs]
    have b1 := a1.1 k1 hk1
    refine cc1 (P1 k1 hk1) O1 hv (by omega) (fun w2 d2 f2 e2 q2 => ?_)
    have D2 := D10.fr f2 (by omega)
    obtain ⟨g0, kf2, g1, g2⟩ := D2
    simp only [q27_25, q27_26, q27_27, q27_30, q27_31, q27_32, q27_35, gF0, gF1, gF2, gF3, gF4, gF5, gF6, gF7, gF8, gF9, gF10, gF11, gF12, gF13, gF14, gF15, gF16, gF17, gF18, gF19, pF0, pF1, pF2, pF3, pF4, pF5, pF6, pF7, pF8, pF9, pF10, pF11, pF12, pF13, pF14, pF15, pF16, pF17, pF18, pF19, aI_mk, aL_mk, aA_mk, sI_mk, sL_mk, sA_mk, isO_mk, rl_some, rl_none, true_and, and_true, true_or, or_true, wr_1, g0, nI_1]
    have f3 : fr w2 (wr w2 h (.inr (1, [.ref (h + 1), .int (nI (k1 + 1))]))) h (h + 1) := fr.wr (by omega) (by omega)
    refine C _ k1 K1 (fun i => if i = k1 then d2 else H1 i) ?_ ?_ (by omega) a1 (fun i hi5 => ?_) ?_ ?_
    · exact (f1.tr (f2.up (by omega) (by omega))).tr (f3.up (by omega) (by omega))
    · exact ⟨rd_s, kf2, (rd_n (by omega)).trans g1, g2⟩
    · have bi := a1.1 i hi5
      by_cases e : i = k1
      · subst e
        rw [if_pos rfl]
        exact e2.fr f3 (by omega)
      · rw [if_neg e]
        have := a1.2 i k1 hi5 hk1 e
        exact ((P1 i hi5).fr f2 (by omega)).fr f3 (by omega)
    · rcases r1 with ⟨s1, s2, s3⟩ | ⟨s1, s2, s3⟩
      · exact Or.inl ⟨s1, s2, fun i hi5 => by rw [if_neg (by omega)]; exact s3 i hi5⟩
      · exact Or.inr ⟨s1, s2, fun i hi5 => by rw [if_neg (by omega)]; exact s3 i hi5⟩
    · show eqD (if k1 = k1 then d2 else H1 k1) d
      rw [if_pos rfl]
      exact q2
  have D0 := D
  obtain ⟨h0, kf, h1, h2⟩ := D
  by_cases c : k = 5
  · subst c
    have hc : nI 5 = 5 := rfl
    simp only [q27_0, q27_1, q27_4, q27_5, q27_8, q27_9, gF0, gF1, gF2, gF3, gF4, gF5, gF6, gF7, gF8, gF9, gF10, gF11, gF12, gF13, gF14, gF15, gF16, gF17, gF18, gF19, pF0, pF1, pF2, pF3, pF4, pF5, pF6, pF7, pF8, pF9, pF10, pF11, pF12, pF13, pF14, pF15, pF16, pF17, pF18, pF19, aI_mk, aL_mk, aA_mk, sI_mk, sL_mk, sA_mk, isO_mk, rl_some, rl_none, true_and, and_true, true_or, or_true, wr_1, h0, hc, not_true, if_false]
    refine c28 (k := 4) D0 (fun i hi5 => (P i hi5).ob) (fun i hi5 => by have := a.1 i hi5; omega) (fun w1 f1 D1 => ?_)
    refine main w1 4 (rot K) (fun i => if i < 4 then H (i + 1) else H 0) (by omega) (f1.up (by omega) (by omega)) D1 (apK_rot a) (fun i hi5 => ?_) (Or.inr ⟨rfl, rfl, fun i hi4 => if_pos hi4⟩)
    show isDD w1 (if i < 4 then K (i + 1) else K 0) (if i < 4 then H (i + 1) else H 0)
    by_cases e : i < 4
    · rw [if_pos e, if_pos e]
      have := a.1 (i + 1) (by omega)
      exact (P (i + 1) (by omega)).fr f1 (by omega)
    · rw [if_neg e, if_neg e]
      have := a.1 0 (by omega)
      exact (P 0 (by omega)).fr f1 (by omega)
  · have hc : ¬ nI k = 5 := by
      rw [show (5 : Int32) = nI 5 from rfl, nI_eq' (by omega) (by omega)]
      exact c
    simp only [q27_0, q27_1, q27_4, q27_5, gF0, gF1, gF2, gF3, gF4, gF5, gF6, gF7, gF8, gF9, gF10, gF11, gF12, gF13, gF14, gF15, gF16, gF17, gF18, gF19, pF0, pF1, pF2, pF3, pF4, pF5, pF6, pF7, pF8, pF9, pF10, pF11, pF12, pF13, pF14, pF15, pF16, pF17, pF18, pF19, aI_mk, aL_mk, aA_mk, sI_mk, sL_mk, sA_mk, isO_mk, rl_some, rl_none, true_and, and_true, true_or, or_true, wr_1, h0, hc, not_false_eq_true, if_true]
    exact main w k K H (by omega) fr.rf D0 a P (Or.inl ⟨by omega, rfl, fun _ _ => rfl⟩)
/-- restore: the latest state comes into the design at o -/
theorem c29 {hi : Nat} {H : Nat → DD} (D : isH w h (k + 1) K) (hk : k + 1 ≤ 5) (a : apK h hi K) (P : ∀ i, i < 5 → isDD w (K i) (H i)) (O : isDD w o d) (hv : vD (H k)) (ho : o + 5 ≤ h ∨ hi ≤ o) (C : ∀ w1 w2 d2, fr w w1 h (h + 1) → fr w1 w2 o (o + 5) → isH w2 h k K → (∀ i, i < 5 → isDD w2 (K i) (H i)) → isDD w2 o d2 → eqD d2 (H k) → Q none w2) : Wp 29 b 0 [.ref h, .ref o] [] w Q := by
  obtain ⟨h0, kf, h1, h2⟩ := D
  have e1 : nI (k + 1) - 1 = nI k := nI_pred k
  have hx : x_pl (nI k) 5 := x_pl_nI (by omega) (by omega)
  have hcl : (nI k).toNatClampNeg = k := cl_nI (by omega)
  have n1 : h + 1 ≠ h := by omega
  have n2 : o ≠ h := by
    have := a.1 0 (by omega)
    omega
  obtain ⟨fs, hfs⟩ := O.ob
  simp only [q29_0, q29_1, q29_2, q29_5, q29_6, q29_7, q29_10, q29_11, q29_12, q29_15, q29_16, q29_19, q29_20, gF0, gF1, gF2, gF3, gF4, gF5, gF6, gF7, gF8, gF9, gF10, gF11, gF12, gF13, gF14, gF15, gF16, gF17, gF18, gF19, pF0, pF1, pF2, pF3, pF4, pF5, pF6, pF7, pF8, pF9, pF10, pF11, pF12, pF13, pF14, pF15, pF16, pF17, pF18, pF19, aI_mk, aL_mk, aA_mk, sI_mk, sL_mk, sA_mk, isO_mk, rl_some, rl_none, true_and, and_true, true_or, or_true, wr_1, h0, h1, e1, rd_s, rd_n n1, rd_n n2, hx, hcl, h2 k (by omega), Option.some.injEq, exists_eq_left', or_false, hfs]
  have f1 : fr w (wr w h (.inr (1, [.ref (h + 1), .int (nI k)]))) h (h + 1) := fr.wr (by omega) (by omega)
  have b1 := a.1 k (by omega)
  have P1 : ∀ i, i < 5 → isDD (wr w h (.inr (1, [.ref (h + 1), .int (nI k)]))) (K i) (H i) := fun i hi5 => by
    have := a.1 i hi5
    exact (P i hi5).fr f1 (by omega)
  have O1 : isDD (wr w h (.inr (1, [.ref (h + 1), .int (nI k)]))) o d := O.fr f1 (by omega)
  have D1 : isH (wr w h (.inr (1, [.ref (h + 1), .int (nI k)]))) h k K := ⟨rd_s, kf, (rd_n n1).trans h1, h2⟩
  refine cc1 O1 (P1 k (by omega)) hv (by omega) (fun w2 d2 f2 e2 q2 => ?_)
  simp only [q29_23, gF0, gF1, gF2, gF3, gF4, gF5, gF6, gF7, gF8, gF9, gF10, gF11, gF12, gF13, gF14, gF15, gF16, gF17, gF18, gF19, pF0, pF1, pF2, pF3, pF4, pF5, pF6, pF7, pF8, pF9, pF10, pF11, pF12, pF13, pF14, pF15, pF16, pF17, pF18, pF19, aI_mk, aL_mk, aA_mk, sI_mk, sL_mk, sA_mk, isO_mk, rl_some, rl_none, true_and, and_true, true_or, or_true, wr_1]
  refine C _ w2 d2 f1 f2 (D1.fr f2 (by omega)) (fun i hi5 => ?_) e2 q2
  have := a.1 i hi5
  exact (P1 i hi5).fr f2 (by omega)
end HI
