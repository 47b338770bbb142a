/-! The class' questions: what they answer, as functions of the design -/
abbrev gNd (d : DD) : Nat → Nat → Int64 := gN (dn d) (dl d) (dr d) (dt d)
abbrev gSd (d : DD) : Nat → Int64 := gS (dn d) (ds d) (dl d) (dr d) (dt d) (dm d)
def deD (d : DD) (U : Nat) : Int64 := dtF U (gNd d)
def nuD (d : DD) (U a : Nat) : Int64 := dtF U (enF (nI a) (gNd d) (gSd d))
/-- the same, a reading left out -/
def deO (d : DD) (U i : Nat) : Int64 := dtF U (gN1 (dn d) (dl d) (dr d) (dt d) i)
def nuO (d : DD) (U i j a : Nat) : Int64 := dtF U (enF (nI a) (gN1 (dn d) (dl d) (dr d) (dt d) i) (gS1 (dn d) (ds d) (dl d) (dr d) (dt d) (dm d) i j))
def deX (d : DD) (U i : Nat) : Int64 := dtF U (gNx (dn d) (dl d) (dr d) (dt d) i)
abbrev hR (d : DD) (r : Int32) : Prop := ¬ r < 0 ∧ r < nI (dn d)
abbrev hG (d : DD) (r q : Int32) : Prop := (¬ r < 0 ∧ r < nI (dn d)) ∧ ¬ q < 0 ∧ q < dt d r.toNatClampNeg
abbrev hA (a : Int32) : Prop := 0 ≤ a ∧ a ≤ 4
abbrev hB (t : Int32) : Prop := 0 ≤ t ∧ t ≤ 1
def rsD (d : DD) (U i j : Nat) : Int64 := rsF (ds d) (dl d) (dr d) (dm d) U (deD d U) (nuD d U) i j
def rwZ (d : DD) (U i : Nat) : Nat → Int32
  | 0 => dl d i
  | 1 => dr d i
  | 2 => dt d i
  | 3 => nfF (swF (dn d) (dl d) (dr d) (dt d) i)
  | _ => bI (¬ deD d U = 0 ∧ deX d U i = 0)
def rwA (d : DD) (U : Nat) (r a : Int32) : Int32 := if hR d r ∧ hA a then rwZ d U r.toNatClampNeg a.toNatClampNeg else -2000000001
def rdA (d : DD) (r q : Int32) : Int32 := if hG d r q then dm d (6 * r.toNatClampNeg + q.toNatClampNeg) else -2000000001
def fiA (d : DD) (x y : Int32) : Int32 := if (1 ≤ x ∧ x ≤ 31) ∧ 1 ≤ y ∧ y ≤ 31 then nfF (fndN (fun j => decide (dl d j = x ∧ dr d j = y)) (dn d) 0) else -2000000001
def vaA (d : DD) (U : Nat) (a t : Int32) : Int64 := if hA a ∧ hB t then (if deD d U = 0 then -2000000002 else if a = 0 then prt t (ds d).toInt64 1 else prt t (nuD d U (a.toNatClampNeg - 1)) (deD d U)) else -2000000001
def paA (d : DD) (U : Nat) (t : Int32) : Int64 := if hB t then (if deD d U = 0 then -2000000002 else if U = 4 then prt t 0 1 else prt t (nuD d U 4) (deD d U)) else -2000000001
def reA (d : DD) (U : Nat) (r q t : Int32) : Int64 := if hG d r q ∧ hB t then (if deD d U = 0 then -2000000002 else prt t (rsD d U r.toNatClampNeg q.toNatClampNeg) (deD d U)) else -2000000001
def blD (d : DD) (U : Nat) (a : Int32) : Int64 := foldN (blF (ds d) (dl d) (dr d) (dt d) (dm d) U (deD d U) (nuD d U) a) (dn d) 0 0
def baA (d : DD) (U : Nat) (a t : Int32) : Int64 := if hA a ∧ hB t then (if deD d U = 0 then -2000000002 else prt t (blD d U a) (deD d U)) else -2000000001
def smD (d : DD) (i : Nat) : Int64 := (smF (dm d) (tkF (dt d) i) i).toInt64
def meA (d : DD) (r t : Int32) : Int64 := if hR d r ∧ hB t then (if dt d r.toNatClampNeg = 0 then -2000000004 else prt t (smD d r.toNatClampNeg) (dt d r.toNatClampNeg).toInt64) else -2000000001
def woD (d : DD) (U : Nat) : Int32 := (foldN (woF (ds d) (dl d) (dr d) (dt d) (dm d) U (deD d U) (nuD d U)) (dn d) 0 (0, -1)).1
def woA (d : DD) (U : Nat) (t : Int32) : Int32 := if hB t then (if deD d U = 0 then -2000000002 else if t = 0 then woD d U / 6 else woD d U - woD d U / 6 * 6) else -2000000001
def wiA (d : DD) (U : Nat) (r q a t : Int32) : Int64 := if hG d r q ∧ (1 ≤ a ∧ a ≤ 4) ∧ hB t then (if deO d U r.toNatClampNeg = 0 then -2000000002 else prt t (nuO d U r.toNatClampNeg q.toNatClampNeg (a.toNatClampNeg - 1)) (deO d U r.toNatClampNeg)) else -2000000001
def chA (d : DD) (a : Int32) : Int32 := if hA a then nfF (lkF (dn d) (dl d) (dr d) (dt d) a 5 0 1) else -2000000001
def pbA (d : DD) (r t : Int32) : Int64 := if hR d r ∧ hB t then (if swF (dn d) (dl d) (dr d) (dt d) r.toNatClampNeg = -1 then -2000000004 else prt t (mnF (dt d) (dm d) r.toNatClampNeg (swF (dn d) (dl d) (dr d) (dt d) r.toNatClampNeg).toNatClampNeg) (2 * mdF (dt d) r.toNatClampNeg (swF (dn d) (dl d) (dr d) (dt d) r.toNatClampNeg).toNatClampNeg)) else -2000000001
def msA (d : DD) : Int32 := nfF (mrF (dn d) (dl d) (dr d) (dt d) (dm d))
def ol4 (d : DD) : Int32 := olF (dn d) (dl d) (dr d) (dt d) (olF (dn d) (dl d) (dr d) (dt d) (olF (dn d) (dl d) (dr d) (dt d) (olF (dn d) (dl d) (dr d) (dt d) 1)))
def cnZ (d : DD) (k len U : Nat) : Nat → Int32
  | 0 => ds d
  | 1 => dp d
  | 2 => dli d
  | 3 => nI (dn d)
  | 4 => foldN (fun a j => a + dt d j) (dn d) 0 0
  | 5 => bI (¬ deD d U = 0)
  | 6 => 4 + dp d
  | 7 => foldN (fun a j => a + dt d j) (dn d) 0 0 - (4 + dp d)
  | 8 => bI (anyN (psF (dli d) (dn d) (dl d) (dr d) (dt d) (dm d)) (dn d) 0 = true)
  | 9 => foldN (fun a j => if swF (dn d) (dl d) (dr d) (dt d) j ≤ nI j then a else a + 1) (dn d) 0 0
  | 10 => bcF (ol4 d)
  | 11 => nI k
  | 12 => nI len
  | _ => if deD d U = 0 then 0 else foldN (fun a j => if deX d U j = 0 then a + 1 else a) (dn d) 0 0
def cnA (d : DD) (k len U : Nat) (a : Int32) : Int32 := if a.toInt < 0 ∨ 13 < a.toInt then -2000000001 else cnZ d k len U a.toNatClampNeg
theorem vC.n {d : DD} {k len : Nat} {H : Nat → DD} {cf : Nat → Int32} (v : vC d k H cf len) : dn d ≤ 12 := v.1.1
theorem vC.t {d : DD} {k len : Nat} {H : Nat → DD} {cf : Nat → Int32} (v : vC d k H cf len) {i : Nat} (hi : i < dn d) : dt d i = nI (tkF (dt d) i) ∧ tkF (dt d) i ≤ 6 := v.1.2 i hi
theorem isU.or {p : Int32} {U : Nat} (h : isU p U) : U ≤ 5 := by
  rcases h.2 with q | q <;> omega
section FD
variable {oo : Nat} {w : xW} {b U : Nat} {d : DD} {k len : Nat} {H : Nat → DD} {cf : Nat → Int32} {Q : Option Value → xW → Prop}
theorem c34w (C : cW oo w d k H cf len) (v : vC d k H cf len) (hp : isU (dp d) U) (K : ∀ w2 N2 S2 M2 V2, fr w w2 (oo + 41) (oo + 51) → cW oo w2 d k H cf len → isS w2 (oo + 41) (nI U) (deD d U) N2 S2 M2 V2 → (¬ deD d U = 0 → ∀ a, a < U → V2 a = nuD d U a) → Q (some (.int (bI (¬ deD d U = 0)))) w2) : Wp 34 b 0 [.ref (oo + 41), .ref (oo + 1)] [] w Q := by
  obtain ⟨u, det, N, S, M, V, Z⟩ := C.2.2.2.2.2
  exact c34 C.2.1 Z v.1 hp (Or.inl (by omega)) (fun w2 N2 S2 M2 V2 f Z2 E => K w2 N2 S2 M2 V2 f (C.S f Z2) Z2 E)
theorem c35w (C : cW oo w d k H cf len) (v : vC d k H cf len) (hp : isU (dp d) U) {i j : Nat} (hi : i < dn d) (hj : j < 6) (K : ∀ w2 N2 S2 M2 V2, fr w w2 (oo + 41) (oo + 51) → cW oo w2 d k H cf len → isS w2 (oo + 41) (nI U) (deO d U i) N2 S2 M2 V2 → (¬ deO d U i = 0 → ∀ a, a < U → V2 a = nuO d U i j a) → Q (some (.int (bI (¬ deO d U i = 0)))) w2) : Wp 35 b 0 [.ref (oo + 41), .ref (oo + 1), .int (nI i), .int (nI j)] [] w Q := by
  obtain ⟨u, det, N, S, M, V, Z⟩ := C.2.2.2.2.2
  exact c35 C.2.1 Z v.1 hp (Or.inl (by omega)) hi hj (fun w2 N2 S2 M2 V2 f Z2 E => K w2 N2 S2 M2 V2 f (C.S f Z2) Z2 E)
theorem c31w (C : cW oo w d k H cf len) (v : vC d k H cf len) (hp : isU (dp d) U) (K : ∀ w2, fr w w2 (oo + 41) (oo + 51) → cW oo w2 d k H cf len → Q (some (.int (bI (¬ deD d U = 0)))) w2) : Wp 31 b 0 [.ref (oo + 41), .ref (oo + 1)] [] w Q := by
  obtain ⟨u, det, N, S, M, V, Z⟩ := C.2.2.2.2.2
  exact c31 C.2.1 Z v.1 hp (Or.inl (by omega)) (fun w2 N2 S2 M2 f Z2 E => K w2 f (C.S f Z2))
theorem c32w (C : cW oo w d k H cf len) (v : vC d k H cf len) (hp : isU (dp d) U) {i : Nat} (hi : i < dn d) (K : ∀ w2, fr w w2 (oo + 41) (oo + 51) → cW oo w2 d k H cf len → Q (some (.int (bI (¬ deD d U = 0 ∧ deX d U i = 0)))) w2) : Wp 32 b 0 [.ref (oo + 41), .ref (oo + 1), .int (nI i)] [] w Q := by
  obtain ⟨u, det, N, S, M, V, Z⟩ := C.2.2.2.2.2
  exact c32 C.2.1 Z v.1 hp (Or.inl (by omega)) hi (fun w2 N2 S2 M2 f Z2 => K w2 f (C.S f Z2))
theorem c33w (C : cW oo w d k H cf len) (v : vC d k H cf len) (hp : isU (dp d) U) (K : ∀ w2, fr w w2 (oo + 41) (oo + 51) → cW oo w2 d k H cf len → Q (some (.int (if deD d U = 0 then 0 else foldN (fun a j => if deX d U j = 0 then a + 1 else a) (dn d) 0 0))) w2) : Wp 33 b 0 [.ref (oo + 41), .ref (oo + 1), x_no, x_no] [] w Q := by
  obtain ⟨u, det, N, S, M, V, Z⟩ := C.2.2.2.2.2
  exact c33 C.2.1 Z v.1 hp (Or.inl (by omega)) (fun w2 N2 S2 M2 f Z2 => K w2 f (C.S f Z2))
theorem c65 (C : cW oo w d k H cf len) (v : vC d k H cf len) {x y : Int32} (K : ∀ w2, fr w w2 oo (oo + 51) → cW oo w2 d k H cf len → Q (some (.int (fiA d x y))) w2) : Wp 65 b 0 [.ref oo, .int x, .int y] [] w Q := by
  have h0 := C.1
  have h1 := C.2.1.1
  have hn := v.n
  have KK := K w fr.rf C
  have z1 : ¬ (1 : Int32) = 0 := by decide
  unfold fiA at KK
  by_cases a1 : 1 ≤ x ∧ x ≤ 31
  · by_cases a2 : 1 ≤ y ∧ y ≤ 31
    · rw [if_pos ⟨a1, a2⟩] at KK
      simp only [q65_0, q65_1, q65_4, q65_7, q65_8, q65_11, q65_14, q65_16, q65_17, q65_18, q65_21, q65_22, q65_23, q65_26, q65_29, gF0, gF1, gF2, gF3, gF4, gF5, gF6, gF7, gF8, gF9, gF10, gF11, gF12, gF13, gF14, gF15, gF16, gF17, gF18, gF19, pF0, pF1, pF2, pF3, pF4, pF5, pF6, pF7, pF8, pF9, pF10, pF11, pF12, pF13, pF14, pF15, pF16, pF17, pF18, pF19, aI_mk, aL_mk, aA_mk, sI_mk, sL_mk, sA_mk, isO_mk, rl_some, rl_none, true_and, and_true, true_or, or_true, wr_1, c85, bI_t a1, bI_t a2, z1, not_false_eq_true, if_true, if_false, h0, oC, h1, c6 C.2.1 hn, c88]
      exact KK
    · rw [if_neg (fun q => a2 q.2)] at KK
      simp only [q65_0, q65_1, q65_4, q65_7, q65_8, q65_11, q65_14, q65_16, q65_17, q65_18, q65_21, q65_22, q65_23, q65_26, q65_29, gF0, gF1, gF2, gF3, gF4, gF5, gF6, gF7, gF8, gF9, gF10, gF11, gF12, gF13, gF14, gF15, gF16, gF17, gF18, gF19, pF0, pF1, pF2, pF3, pF4, pF5, pF6, pF7, pF8, pF9, pF10, pF11, pF12, pF13, pF14, pF15, pF16, pF17, pF18, pF19, aI_mk, aL_mk, aA_mk, sI_mk, sL_mk, sA_mk, isO_mk, rl_some, rl_none, true_and, and_true, true_or, or_true, wr_1, c85, bI_t a1, bI_f a2, z1, not_true, if_false]
      exact KK
  · rw [if_neg (fun q => a1 q.1)] at KK
    simp only [q65_0, q65_1, q65_4, q65_7, q65_8, q65_11, q65_14, q65_16, q65_17, q65_18, q65_21, q65_22, q65_23, q65_26, q65_29, gF0, gF1, gF2, gF3, gF4, gF5, gF6, gF7, gF8, gF9, gF10, gF11, gF12, gF13, gF14, gF15, gF16, gF17, gF18, gF19, pF0, pF1, pF2, pF3, pF4, pF5, pF6, pF7, pF8, pF9, pF10, pF11, pF12, pF13, pF14, pF15, pF16, pF17, pF18, pF19, aI_mk, aL_mk, aA_mk, sI_mk, sL_mk, sA_mk, isO_mk, rl_some, rl_none, true_and, and_true, true_or, or_true, wr_1, c85, bI_f a1, if_true]
    exact KK
theorem c63 (C : cW oo w d k H cf len) (v : vC d k H cf len) (hp : isU (dp d) U) {r a : Int32} (K : ∀ w2, fr w w2 oo (oo + 51) → cW oo w2 d k H cf len → Q (some (.int (rwA d U r a))) w2) : Wp 63 b 0 [.ref oo, .int r, .int a] [] w Q := by
  have h0 := C.1
  obtain ⟨h1, h2, h3, h4, -⟩ := C.2.1
  have hn := v.n
  have h41 := C.o41
  have z1 : ¬ (1 : Int32) = 0 := by decide
  unfold rwA at K
  by_cases a1 : hR d r
  · obtain ⟨i, hi, er⟩ := row_of hn a1.1 a1.2
    have hcl : (nI i).toNatClampNeg = i := cl_nI (by omega)
    have hx : x_pl (nI i) 12 := x_pl_nI (by omega) (by omega)
    have e1 := bI_t a1
    subst er
    simp only [q63_0, q63_1, q63_4, q63_5, q63_8, q63_11, q63_13, q63_14, gF0, gF1, gF2, gF3, gF4, gF5, gF6, gF7, gF8, gF9, gF10, gF11, gF12, gF13, gF14, gF15, gF16, gF17, gF18, gF19, pF0, pF1, pF2, pF3, pF4, pF5, pF6, pF7, pF8, pF9, pF10, pF11, pF12, pF13, pF14, pF15, pF16, pF17, pF18, pF19, aI_mk, aL_mk, aA_mk, sI_mk, sL_mk, sA_mk, isO_mk, rl_some, rl_none, true_and, and_true, true_or, or_true, wr_1, c3 C.2.1, e1, z1, not_false_eq_true, if_true, h0, oC, h1]
    have G : ∀ z, z < 5 → a = nI z → ∀ w2, fr w w2 oo (oo + 51) → cW oo w2 d k H cf len → Q (some (.int (rwZ d U i z))) w2 := by
      intro z hz ea w2 f2 C2
      have KK := K w2 f2 C2
      have hA' : hA a := by
        rw [ea]
        rcases (show z = 0 ∨ z = 1 ∨ z = 2 ∨ z = 3 ∨ z = 4 by omega) with rfl | rfl | rfl | rfl | rfl <;> decide
      rw [if_pos ⟨a1, hA'⟩, hcl, ea, cl_nI (show z ≤ 1000 by omega)] at KK
      exact KK
    rcases x_5 a with h | rfl | rfl | rfl | rfl | rfl
    · have hA' : ¬ hA a := by
        intro q
        have q1 := Int32.le_iff_toInt_le.mp q.1
        have q2 := Int32.le_iff_toInt_le.mp q.2
        rw [show (0 : Int32).toInt = 0 from rfl] at q1
        rw [show (4 : Int32).toInt = 4 from rfl] at q2
        omega
      have KK := K w fr.rf C
      rw [if_neg (fun q => hA' q.2)] at KK
      rw [q63_15_d h]
      simp only [q63_106, q63_108]
      exact KK
    · have KK := G 0 (by omega) rfl w fr.rf C
      rw [q63_15_c0]
      simp only [q63_48, q63_49, q63_52, q63_55, q63_56, q63_57, gF0, gF1, gF2, gF3, gF4, gF5, gF6, gF7, gF8, gF9, gF10, gF11, gF12, gF13, gF14, gF15, gF16, gF17, gF18, gF19, pF0, pF1, pF2, pF3, pF4, pF5, pF6, pF7, pF8, pF9, pF10, pF11, pF12, pF13, pF14, pF15, pF16, pF17, pF18, pF19, aI_mk, aL_mk, aA_mk, sI_mk, sL_mk, sA_mk, isO_mk, rl_some, rl_none, true_and, and_true, true_or, or_true, wr_1, h0, oC, h1, h2, hx, hcl]
      exact KK
    · have KK := G 1 (by omega) rfl w fr.rf C
      rw [q63_15_c1]
      simp only [q63_58, q63_59, q63_62, q63_65, q63_66, q63_67, gF0, gF1, gF2, gF3, gF4, gF5, gF6, gF7, gF8, gF9, gF10, gF11, gF12, gF13, gF14, gF15, gF16, gF17, gF18, gF19, pF0, pF1, pF2, pF3, pF4, pF5, pF6, pF7, pF8, pF9, pF10, pF11, pF12, pF13, pF14, pF15, pF16, pF17, pF18, pF19, aI_mk, aL_mk, aA_mk, sI_mk, sL_mk, sA_mk, isO_mk, rl_some, rl_none, true_and, and_true, true_or, or_true, wr_1, h0, oC, h1, h3, hx, hcl]
      exact KK
    · have KK := G 2 (by omega) rfl w fr.rf C
      rw [q63_15_c2]
      simp only [q63_68, q63_69, q63_72, q63_75, q63_76, q63_77, gF0, gF1, gF2, gF3, gF4, gF5, gF6, gF7, gF8, gF9, gF10, gF11, gF12, gF13, gF14, gF15, gF16, gF17, gF18, gF19, pF0, pF1, pF2, pF3, pF4, pF5, pF6, pF7, pF8, pF9, pF10, pF11, pF12, pF13, pF14, pF15, pF16, pF17, pF18, pF19, aI_mk, aL_mk, aA_mk, sI_mk, sL_mk, sA_mk, isO_mk, rl_some, rl_none, true_and, and_true, true_or, or_true, wr_1, h0, oC, h1, h4, hx, hcl]
      exact KK
    · have KK := G 3 (by omega) rfl w fr.rf C
      rw [q63_15_c3]
      simp only [q63_78, q63_79, q63_82, q63_83, q63_86, q63_89, gF0, gF1, gF2, gF3, gF4, gF5, gF6, gF7, gF8, gF9, gF10, gF11, gF12, gF13, gF14, gF15, gF16, gF17, gF18, gF19, pF0, pF1, pF2, pF3, pF4, pF5, pF6, pF7, pF8, pF9, pF10, pF11, pF12, pF13, pF14, pF15, pF16, pF17, pF18, pF19, aI_mk, aL_mk, aA_mk, sI_mk, sL_mk, sA_mk, isO_mk, rl_some, rl_none, true_and, and_true, true_or, or_true, wr_1, h0, oC, h1, c20 C.2.1 hn (show i < 12 by omega), c88]
      exact KK
    · rw [q63_15_c4]
      simp only [q63_90, q63_91, q63_94, q63_95, q63_98, q63_99, gF0, gF1, gF2, gF3, gF4, gF5, gF6, gF7, gF8, gF9, gF10, gF11, gF12, gF13, gF14, gF15, gF16, gF17, gF18, gF19, pF0, pF1, pF2, pF3, pF4, pF5, pF6, pF7, pF8, pF9, pF10, pF11, pF12, pF13, pF14, pF15, pF16, pF17, pF18, pF19, aI_mk, aL_mk, aA_mk, sI_mk, sL_mk, sA_mk, isO_mk, rl_some, rl_none, true_and, and_true, true_or, or_true, wr_1, h0, oC, h41]
      refine c32w C v hp hi (fun w2 f2 C2 => ?_)
      have KK := G 4 (by omega) rfl w2 (f2.up (by omega) (by omega)) C2
      simp only [q63_102, q63_105, gF0, gF1, gF2, gF3, gF4, gF5, gF6, gF7, gF8, gF9, gF10, gF11, gF12, gF13, gF14, gF15, gF16, gF17, gF18, gF19, pF0, pF1, pF2, pF3, pF4, pF5, pF6, pF7, pF8, pF9, pF10, pF11, pF12, pF13, pF14, pF15, pF16, pF17, pF18, pF19, aI_mk, aL_mk, aA_mk, sI_mk, sL_mk, sA_mk, isO_mk, rl_some, rl_none, true_and, and_true, true_or, or_true, wr_1, c89]
      exact KK
  · have KK := K w fr.rf C
    rw [if_neg (fun q => a1 q.1)] at KK
    simp only [q63_0, q63_1, q63_4, q63_5, q63_8, q63_11, q63_13, gF0, gF1, gF2, gF3, gF4, gF5, gF6, gF7, gF8, gF9, gF10, gF11, gF12, gF13, gF14, gF15, gF16, gF17, gF18, gF19, pF0, pF1, pF2, pF3, pF4, pF5, pF6, pF7, pF8, pF9, pF10, pF11, pF12, pF13, pF14, pF15, pF16, pF17, pF18, pF19, aI_mk, aL_mk, aA_mk, sI_mk, sL_mk, sA_mk, isO_mk, rl_some, rl_none, true_and, and_true, true_or, or_true, wr_1, c3 C.2.1, bI_f a1, not_true, if_false, h0, oC, h1]
    exact KK
theorem c66 (C : cW oo w d k H cf len) (v : vC d k H cf len) (hp : isU (dp d) U) {a : Int32} (K : ∀ w2, fr w w2 oo (oo + 51) → cW oo w2 d k H cf len → Q (some (.int (cnA d k len U a))) w2) : Wp 66 b 0 [.ref oo, .int a] [] w Q := by
  have h0 := C.1
  have h1 := C.2.1.1
  have h6 := C.o6
  have hn := v.n
  have h41 := C.o41
  obtain ⟨l, r, am, nx, X⟩ := C.2.2.2.1
  have h33 := X.1
  unfold cnA at K
  have G : ∀ z, z < 14 → a = nI z → ∀ w2, fr w w2 oo (oo + 51) → cW oo w2 d k H cf len → Q (some (.int (cnZ d k len U z))) w2 := by
    intro z hz ea w2 f2 C2
    have KK := K w2 f2 C2
    have e : (nI z).toInt = z := nI_toInt (by omega)
    rw [ea, if_neg (by rw [e]; omega), cl_nI (show z ≤ 1000 by omega)] at KK
    exact KK
  rw [q66_0]
  rcases x_14 a with h | rfl | rfl | rfl | rfl | rfl | rfl | rfl | rfl | rfl | rfl | rfl | rfl | rfl | rfl
  · have KK := K w fr.rf C
    rw [if_pos h] at KK
    rw [q66_1_d h]
    simp only [q66_188, q66_190]
    exact KK
  · have KK := G 0 (by omega) rfl w fr.rf C
    rw [q66_1_c0]
    simp only [q66_72, q66_73, q66_74, q66_77, gF0, gF1, gF2, gF3, gF4, gF5, gF6, gF7, gF8, gF9, gF10, gF11, gF12, gF13, gF14, gF15, gF16, gF17, gF18, gF19, pF0, pF1, pF2, pF3, pF4, pF5, pF6, pF7, pF8, pF9, pF10, pF11, pF12, pF13, pF14, pF15, pF16, pF17, pF18, pF19, aI_mk, aL_mk, aA_mk, sI_mk, sL_mk, sA_mk, isO_mk, rl_some, rl_none, true_and, and_true, true_or, or_true, wr_1, c83 C, h0, oC, if_true]
    exact KK
  · have KK := G 1 (by omega) rfl w fr.rf C
    have e1 : ¬ (1 : Int32) = 0 := by decide
    rw [q66_1_c1]
    simp only [q66_72, q66_73, q66_74, q66_77, gF0, gF1, gF2, gF3, gF4, gF5, gF6, gF7, gF8, gF9, gF10, gF11, gF12, gF13, gF14, gF15, gF16, gF17, gF18, gF19, pF0, pF1, pF2, pF3, pF4, pF5, pF6, pF7, pF8, pF9, pF10, pF11, pF12, pF13, pF14, pF15, pF16, pF17, pF18, pF19, aI_mk, aL_mk, aA_mk, sI_mk, sL_mk, sA_mk, isO_mk, rl_some, rl_none, true_and, and_true, true_or, or_true, wr_1, c83 C, h0, oC, e1, if_true, if_false]
    exact KK
  · have KK := G 2 (by omega) rfl w fr.rf C
    have e1 : ¬ (2 : Int32) = 0 := by decide
    have e2 : ¬ (2 : Int32) = 1 := by decide
    rw [q66_1_c2]
    simp only [q66_72, q66_73, q66_74, q66_77, gF0, gF1, gF2, gF3, gF4, gF5, gF6, gF7, gF8, gF9, gF10, gF11, gF12, gF13, gF14, gF15, gF16, gF17, gF18, gF19, pF0, pF1, pF2, pF3, pF4, pF5, pF6, pF7, pF8, pF9, pF10, pF11, pF12, pF13, pF14, pF15, pF16, pF17, pF18, pF19, aI_mk, aL_mk, aA_mk, sI_mk, sL_mk, sA_mk, isO_mk, rl_some, rl_none, true_and, and_true, true_or, or_true, wr_1, c83 C, h0, oC, e1, e2, if_false]
    exact KK
  · have KK := G 3 (by omega) rfl w fr.rf C
    rw [q66_1_c3]
    simp only [q66_78, q66_79, q66_82, q66_85, gF0, gF1, gF2, gF3, gF4, gF5, gF6, gF7, gF8, gF9, gF10, gF11, gF12, gF13, gF14, gF15, gF16, gF17, gF18, gF19, pF0, pF1, pF2, pF3, pF4, pF5, pF6, pF7, pF8, pF9, pF10, pF11, pF12, pF13, pF14, pF15, pF16, pF17, pF18, pF19, aI_mk, aL_mk, aA_mk, sI_mk, sL_mk, sA_mk, isO_mk, rl_some, rl_none, true_and, and_true, true_or, or_true, wr_1, h0, oC, h1]
    exact KK
  · have KK := G 4 (by omega) rfl w fr.rf C
    rw [q66_1_c4]
    simp only [q66_86, q66_87, q66_90, q66_93, gF0, gF1, gF2, gF3, gF4, gF5, gF6, gF7, gF8, gF9, gF10, gF11, gF12, gF13, gF14, gF15, gF16, gF17, gF18, gF19, pF0, pF1, pF2, pF3, pF4, pF5, pF6, pF7, pF8, pF9, pF10, pF11, pF12, pF13, pF14, pF15, pF16, pF17, pF18, pF19, aI_mk, aL_mk, aA_mk, sI_mk, sL_mk, sA_mk, isO_mk, rl_some, rl_none, true_and, and_true, true_or, or_true, wr_1, h0, oC, h1, c13 C.2.1 hn]
    exact KK
  · rw [q66_1_c5]
    simp only [q66_94, q66_95, q66_98, q66_99, q66_102, gF0, gF1, gF2, gF3, gF4, gF5, gF6, gF7, gF8, gF9, gF10, gF11, gF12, gF13, gF14, gF15, gF16, gF17, gF18, gF19, pF0, pF1, pF2, pF3, pF4, pF5, pF6, pF7, pF8, pF9, pF10, pF11, pF12, pF13, pF14, pF15, pF16, pF17, pF18, pF19, aI_mk, aL_mk, aA_mk, sI_mk, sL_mk, sA_mk, isO_mk, rl_some, rl_none, true_and, and_true, true_or, or_true, wr_1, h0, oC, h41]
    refine c31w C v hp (fun w2 f2 C2 => ?_)
    have KK := G 5 (by omega) rfl w2 (f2.up (by omega) (by omega)) C2
    simp only [q66_105, q66_108, gF0, gF1, gF2, gF3, gF4, gF5, gF6, gF7, gF8, gF9, gF10, gF11, gF12, gF13, gF14, gF15, gF16, gF17, gF18, gF19, pF0, pF1, pF2, pF3, pF4, pF5, pF6, pF7, pF8, pF9, pF10, pF11, pF12, pF13, pF14, pF15, pF16, pF17, pF18, pF19, aI_mk, aL_mk, aA_mk, sI_mk, sL_mk, sA_mk, isO_mk, rl_some, rl_none, true_and, and_true, true_or, or_true, wr_1, c89]
    exact KK
  · have KK := G 6 (by omega) rfl w fr.rf C
    rw [q66_1_c6]
    simp only [q66_109, q66_110, q66_113, q66_116, gF0, gF1, gF2, gF3, gF4, gF5, gF6, gF7, gF8, gF9, gF10, gF11, gF12, gF13, gF14, gF15, gF16, gF17, gF18, gF19, pF0, pF1, pF2, pF3, pF4, pF5, pF6, pF7, pF8, pF9, pF10, pF11, pF12, pF13, pF14, pF15, pF16, pF17, pF18, pF19, aI_mk, aL_mk, aA_mk, sI_mk, sL_mk, sA_mk, isO_mk, rl_some, rl_none, true_and, and_true, true_or, or_true, wr_1, h0, oC, h1, c12 C.2.1]
    exact KK
  · have KK := G 7 (by omega) rfl w fr.rf C
    rw [q66_1_c7]
    simp only [q66_117, q66_118, q66_121, q66_124, q66_125, q66_128, q66_131, q66_132, gF0, gF1, gF2, gF3, gF4, gF5, gF6, gF7, gF8, gF9, gF10, gF11, gF12, gF13, gF14, gF15, gF16, gF17, gF18, gF19, pF0, pF1, pF2, pF3, pF4, pF5, pF6, pF7, pF8, pF9, pF10, pF11, pF12, pF13, pF14, pF15, pF16, pF17, pF18, pF19, aI_mk, aL_mk, aA_mk, sI_mk, sL_mk, sA_mk, isO_mk, rl_some, rl_none, true_and, and_true, true_or, or_true, wr_1, h0, oC, h1, c12 C.2.1, c13 C.2.1 hn]
    exact KK
  · have KK := G 8 (by omega) rfl w fr.rf C
    rw [q66_1_c8]
    simp only [q66_133, q66_134, q66_137, q66_140, q66_143, gF0, gF1, gF2, gF3, gF4, gF5, gF6, gF7, gF8, gF9, gF10, gF11, gF12, gF13, gF14, gF15, gF16, gF17, gF18, gF19, pF0, pF1, pF2, pF3, pF4, pF5, pF6, pF7, pF8, pF9, pF10, pF11, pF12, pF13, pF14, pF15, pF16, pF17, pF18, pF19, aI_mk, aL_mk, aA_mk, sI_mk, sL_mk, sA_mk, isO_mk, rl_some, rl_none, true_and, and_true, true_or, or_true, wr_1, h0, oC, h1, c24 C.2.1 v.1, c89]
    exact KK
  · have KK := G 9 (by omega) rfl w fr.rf C
    rw [q66_1_c9]
    simp only [q66_144, q66_145, q66_148, q66_151, gF0, gF1, gF2, gF3, gF4, gF5, gF6, gF7, gF8, gF9, gF10, gF11, gF12, gF13, gF14, gF15, gF16, gF17, gF18, gF19, pF0, pF1, pF2, pF3, pF4, pF5, pF6, pF7, pF8, pF9, pF10, pF11, pF12, pF13, pF14, pF15, pF16, pF17, pF18, pF19, aI_mk, aL_mk, aA_mk, sI_mk, sL_mk, sA_mk, isO_mk, rl_some, rl_none, true_and, and_true, true_or, or_true, wr_1, h0, oC, h1, c21 C.2.1 hn]
    exact KK
  · have KK := G 10 (by omega) rfl w fr.rf C
    rw [q66_1_c10]
    simp only [q66_152, q66_153, q66_156, q66_159, gF0, gF1, gF2, gF3, gF4, gF5, gF6, gF7, gF8, gF9, gF10, gF11, gF12, gF13, gF14, gF15, gF16, gF17, gF18, gF19, pF0, pF1, pF2, pF3, pF4, pF5, pF6, pF7, pF8, pF9, pF10, pF11, pF12, pF13, pF14, pF15, pF16, pF17, pF18, pF19, aI_mk, aL_mk, aA_mk, sI_mk, sL_mk, sA_mk, isO_mk, rl_some, rl_none, true_and, and_true, true_or, or_true, wr_1, h0, oC, h1, c18 C.2.1 hn]
    exact KK
  · have KK := G 11 (by omega) rfl w fr.rf C
    rw [q66_1_c11]
    simp only [q66_160, q66_161, q66_164, q66_167, gF0, gF1, gF2, gF3, gF4, gF5, gF6, gF7, gF8, gF9, gF10, gF11, gF12, gF13, gF14, gF15, gF16, gF17, gF18, gF19, pF0, pF1, pF2, pF3, pF4, pF5, pF6, pF7, pF8, pF9, pF10, pF11, pF12, pF13, pF14, pF15, pF16, pF17, pF18, pF19, aI_mk, aL_mk, aA_mk, sI_mk, sL_mk, sA_mk, isO_mk, rl_some, rl_none, true_and, and_true, true_or, or_true, wr_1, h0, oC, h6]
    exact KK
  · have KK := G 12 (by omega) rfl w fr.rf C
    rw [q66_1_c12]
    simp only [q66_168, q66_169, q66_172, q66_175, gF0, gF1, gF2, gF3, gF4, gF5, gF6, gF7, gF8, gF9, gF10, gF11, gF12, gF13, gF14, gF15, gF16, gF17, gF18, gF19, pF0, pF1, pF2, pF3, pF4, pF5, pF6, pF7, pF8, pF9, pF10, pF11, pF12, pF13, pF14, pF15, pF16, pF17, pF18, pF19, aI_mk, aL_mk, aA_mk, sI_mk, sL_mk, sA_mk, isO_mk, rl_some, rl_none, true_and, and_true, true_or, or_true, wr_1, h0, oC, h33]
    exact KK
  · rw [q66_1_c13]
    simp only [q66_176, q66_177, q66_180, q66_181, q66_184, gF0, gF1, gF2, gF3, gF4, gF5, gF6, gF7, gF8, gF9, gF10, gF11, gF12, gF13, gF14, gF15, gF16, gF17, gF18, gF19, pF0, pF1, pF2, pF3, pF4, pF5, pF6, pF7, pF8, pF9, pF10, pF11, pF12, pF13, pF14, pF15, pF16, pF17, pF18, pF19, aI_mk, aL_mk, aA_mk, sI_mk, sL_mk, sA_mk, isO_mk, rl_some, rl_none, true_and, and_true, true_or, or_true, wr_1, h0, oC, h41]
    refine c33w C v hp (fun w2 f2 C2 => ?_)
    have KK := G 13 (by omega) rfl w2 (f2.up (by omega) (by omega)) C2
    simp only [q66_187, gF0, gF1, gF2, gF3, gF4, gF5, gF6, gF7, gF8, gF9, gF10, gF11, gF12, gF13, gF14, gF15, gF16, gF17, gF18, gF19, pF0, pF1, pF2, pF3, pF4, pF5, pF6, pF7, pF8, pF9, pF10, pF11, pF12, pF13, pF14, pF15, pF16, pF17, pF18, pF19, aI_mk, aL_mk, aA_mk, sI_mk, sL_mk, sA_mk, isO_mk, rl_some, rl_none, true_and, and_true, true_or, or_true, wr_1]
    exact KK
end FD
