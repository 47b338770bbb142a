/-! The class' world: cells 0 to 50 -/
abbrev ds (d : DD) : Int32 := d.1.1
abbrev dp (d : DD) : Int32 := d.1.2.1
abbrev dli (d : DD) : Int32 := d.1.2.2.1
abbrev dn (d : DD) : Nat := d.1.2.2.2
abbrev dl (d : DD) : Nat → Int32 := d.2.1
abbrev dr (d : DD) : Nat → Int32 := d.2.2.1
abbrev dt (d : DD) : Nat → Int32 := d.2.2.2.1
abbrev dm (d : DD) : Nat → Int32 := d.2.2.2.2
def oC (oo : Nat) : xC := .inr (5, [.ref (oo + 1), .ref (oo + 6), .ref (oo + 33), .ref (oo + 35), .ref (oo + 41)])
def cW (oo : Nat) (w : xW) (d : DD) (k : Nat) (H : Nat → DD) (cf : Nat → Int32) (len : Nat) : Prop := rd w oo = oC oo ∧ isDD w (oo + 1) d ∧ (∃ K, isH w (oo + 6) k K ∧ apK (oo + 6) (oo + 33) K ∧ ∀ i, i < 5 → isDD w (K i) (H i)) ∧ (∃ l r a nx, isX w (oo + 33) cf len l r a nx) ∧ (∃ e p rs dd, isR w (oo + 35) e p rs ∧ isDD w (oo + 36) dd) ∧ (∃ u det N S M V, isS w (oo + 41) u det N S M V)
/-- what is within its limits -/
def vC (d : DD) (k : Nat) (H : Nat → DD) (cf : Nat → Int32) (len : Nat) : Prop := vD d ∧ k ≤ 5 ∧ (∀ i, i < k → vD (H i)) ∧ vX cf len
/-- the design before is put into the history -/
def reC (d : DD) (k : Nat) (H : Nat → DD) (k2 : Nat) (H2 : Nat → DD) : Prop := k2 = (if k = 5 then 5 else k + 1) ∧ ∀ j, j < k2 → if j + 1 = k2 then eqD (H2 j) d else if k = 5 then H2 j = H (j + 1) else H2 j = H j
section CW
variable {oo : Nat} {w w2 : xW} {b : Nat} {d d2 : DD} {k len : Nat} {H : Nat → DD} {cf : Nat → Int32} {Q : Option Value → xW → Prop}
theorem cW.fx {lo hi : Nat} (C : cW oo w d k H cf len) (f : fr w w2 lo hi) (h : oo + 51 ≤ lo) : cW oo w2 d k H cf len := by
  obtain ⟨h0, D, ⟨K, a1, a2, a3⟩, ⟨l, r, a, nx, X⟩, ⟨e, p, rs, dd, R, T⟩, ⟨u, det, N, S, M, V, Z⟩⟩ := C
  exact ⟨(f.2.2 _ (by omega)).trans h0, D.fr f (by omega), ⟨K, a1.fr f (by omega), a2, fun i hi => (a3 i hi).fr f (by have := (a2.1 i hi).2; omega)⟩, ⟨l, r, a, nx, X.fr f (by omega)⟩, ⟨e, p, rs, dd, (f.2.2 _ (by omega)).trans R, T.fr f (by omega)⟩, ⟨u, det, N, S, M, V, Z.fr f (by omega)⟩⟩
theorem cW.D (C : cW oo w d k H cf len) (f : fr w w2 (oo + 1) (oo + 6)) (D2 : isDD w2 (oo + 1) d2) : cW oo w2 d2 k H cf len := by
  obtain ⟨h0, D, ⟨K, a1, a2, a3⟩, ⟨l, r, a, nx, X⟩, ⟨e, p, rs, dd, R, T⟩, ⟨u, det, N, S, M, V, Z⟩⟩ := C
  exact ⟨(f.2.2 _ (by omega)).trans h0, D2, ⟨K, a1.fr f (by omega), a2, fun i hi => (a3 i hi).fr f (by have := (a2.1 i hi).1; omega)⟩, ⟨l, r, a, nx, X.fr f (by omega)⟩, ⟨e, p, rs, dd, (f.2.2 _ (by omega)).trans R, T.fr f (by omega)⟩, ⟨u, det, N, S, M, V, Z.fr f (by omega)⟩⟩
theorem cW.S {u2 : Int32} {det2 : Int64} {N2 : Nat → Nat → Int64} {S2 M2 V2 : Nat → Int64} (C : cW oo w d k H cf len) (f : fr w w2 (oo + 41) (oo + 51)) (Z2 : isS w2 (oo + 41) u2 det2 N2 S2 M2 V2) : cW oo w2 d k H cf len := by
  obtain ⟨h0, D, ⟨K, a1, a2, a3⟩, ⟨l, r, a, nx, X⟩, ⟨e, p, rs, dd, R, T⟩, ⟨u, det, N, S, M, V, Z⟩⟩ := C
  exact ⟨(f.2.2 _ (by omega)).trans h0, D.fr f (by omega), ⟨K, a1.fr f (by omega), a2, fun i hi => (a3 i hi).fr f (by have := (a2.1 i hi).2; omega)⟩, ⟨l, r, a, nx, X.fr f (by omega)⟩, ⟨e, p, rs, dd, (f.2.2 _ (by omega)).trans R, T.fr f (by omega)⟩, ⟨u2, det2, N2, S2, M2, V2, Z2⟩⟩
theorem cW.X {l2 r2 a2 nx2 : Int32} {cf2 : Nat → Int32} {len2 : Nat} (C : cW oo w d k H cf len) (f : fr w w2 (oo + 33) (oo + 35)) (X2 : isX w2 (oo + 33) cf2 len2 l2 r2 a2 nx2) : cW oo w2 d k H cf2 len2 := by
  obtain ⟨h0, D, ⟨K, a1, a2', a3⟩, ⟨l, r, a, nx, X⟩, ⟨e, p, rs, dd, R, T⟩, ⟨u, det, N, S, M, V, Z⟩⟩ := C
  exact ⟨(f.2.2 _ (by omega)).trans h0, D.fr f (by omega), ⟨K, a1.fr f (by omega), a2', fun i hi => (a3 i hi).fr f (by have := (a2'.1 i hi).2; omega)⟩, ⟨l2, r2, a2, nx2, X2⟩, ⟨e, p, rs, dd, (f.2.2 _ (by omega)).trans R, T.fr f (by omega)⟩, ⟨u, det, N, S, M, V, Z.fr f (by omega)⟩⟩
theorem cW.T {l2 r2 a2 nx2 rs2 : Int32} {e2 p2 : Nat} {dd2 : DD} (C : cW oo w d k H cf len) (f : fr w w2 (oo + 33) (oo + 41)) (X2 : isX w2 (oo + 33) cf len l2 r2 a2 nx2) (R2 : isR w2 (oo + 35) e2 p2 rs2) (T2 : isDD w2 (oo + 36) dd2) : cW oo w2 d k H cf len := by
  obtain ⟨h0, D, ⟨K, a1, a2', a3⟩, ⟨l, r, a, nx, X⟩, ⟨e, p, rs, dd, R, T⟩, ⟨u, det, N, S, M, V, Z⟩⟩ := C
  exact ⟨(f.2.2 _ (by omega)).trans h0, D.fr f (by omega), ⟨K, a1.fr f (by omega), a2', fun i hi => (a3 i hi).fr f (by have := (a2'.1 i hi).2; omega)⟩, ⟨l2, r2, a2, nx2, X2⟩, ⟨e2, p2, rs2, dd2, R2, T2⟩, ⟨u, det, N, S, M, V, Z.fr f (by omega)⟩⟩
theorem c27w (C : cW oo w d k H cf len) (v : vC d k H cf len) (K : ∀ w2 k2 H2, fr w w2 (oo + 6) (oo + 33) → cW oo w2 d k2 H2 cf len → reC d k H k2 H2 → Q none w2) : Wp 27 b 0 [.ref (oo + 6), .ref (oo + 1)] [] w Q := by
  obtain ⟨h0, D, ⟨K0, a1, a2, a3⟩, ⟨l, r, a, nx, X⟩, ⟨e, p, rs, dd, R, T⟩, ⟨u, det, N, S, M, V, Z⟩⟩ := C
  refine c27 a1 v.2.1 a2 a3 D v.1 (Or.inl (by omega)) (fun w2 k2 K2 H2 f H2' k25 a22 P2 hh he => K w2 (k2 + 1) H2 f ?_ ?_)
  · exact ⟨(f.2.2 _ (by omega)).trans h0, D.fr f (by omega), ⟨K2, H2', a22, P2⟩, ⟨l, r, a, nx, X.fr f (by omega)⟩, ⟨e, p, rs, dd, (f.2.2 _ (by omega)).trans R, T.fr f (by omega)⟩, ⟨u, det, N, S, M, V, Z.fr f (by omega)⟩⟩
  · rcases hh with ⟨q1, q2, q3⟩ | ⟨q1, q2, q3⟩
    · refine ⟨by rw [if_neg (by omega)]; omega, fun j hj => ?_⟩
      by_cases c : j + 1 = k2 + 1
      · rw [if_pos c, show j = k2 by omega]
        exact he
      · rw [if_neg c, if_neg (by omega)]
        exact q3 j (by omega)
    · refine ⟨by rw [if_pos q1]; omega, fun j hj => ?_⟩
      by_cases c : j + 1 = k2 + 1
      · rw [if_pos c, show j = k2 by omega]
        exact he
      · rw [if_neg c, if_pos q1]
        exact q3 j (by omega)
theorem c83 (C : cW oo w d k H cf len) {a : Int32} : Wp 83 b 0 [.ref oo, .int a] [] w Q ↔ Q (some (.int (if a = 0 then ds d else if a = 1 then dp d else dli d))) w := by
  have h0 := C.1
  have h1 := C.2.1.1
  simp only [q83_0, q83_1, q83_4, q83_5, q83_8, q83_11, q83_12, q83_13, q83_14, q83_17, q83_18, q83_21, q83_24, q83_27, q83_28, q83_31, q83_34, gF0, gF1, gF2, gF3, gF4, gF5, gF6, gF7, gF8, gF9, gF10, gF11, gF12, gF13, gF14, gF15, gF16, gF17, gF18, gF19, pF0, pF1, pF2, pF3, pF4, pF5, pF6, pF7, pF8, pF9, pF10, pF11, pF12, pF13, pF14, pF15, pF16, pF17, pF18, pF19, aI_mk, aL_mk, aA_mk, sI_mk, sL_mk, sA_mk, isO_mk, rl_some, rl_none, true_and, and_true, true_or, or_true, wr_1, h0, oC, h1]
  by_cases c1 : a = 0
  · simp [c1]
  · by_cases c2 : a = 1
    · simp [c2]
    · simp [c1, c2]
end CW
