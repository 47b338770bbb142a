/-! The reference: one object and its arrays, cells 51 to 59 -/
def xM : Type := (Nat → Int32) × (Nat → Int32) × (Nat) × (Nat → Int32) × (Nat → Int32) × (Nat) × (Int32) × (Int32) × (Int32) × (Int32) × (Int32) × (Nat → Int64) × (Int32) × (Int32) × (Nat → Int64) × (Nat → Int64) × (Int64) × (Nat → Int32) × (Int64) × (Int64)
def xM.df (m : xM) : Nat → Int32 := m.1
def xM.wf (m : xM) : Nat → Int32 := m.2.1
def xM.st (m : xM) : Nat := m.2.2.1
def xM.af (m : xM) : Nat → Int32 := m.2.2.2.1
def xM.cf (m : xM) : Nat → Int32 := m.2.2.2.2.1
def xM.ty (m : xM) : Nat := m.2.2.2.2.2.1
def xM.pa (m : xM) : Int32 := m.2.2.2.2.2.2.1
def xM.le (m : xM) : Int32 := m.2.2.2.2.2.2.2.1
def xM.ri (m : xM) : Int32 := m.2.2.2.2.2.2.2.2.1
def xM.re (m : xM) : Int32 := m.2.2.2.2.2.2.2.2.2.1
def xM.rs (m : xM) : Int32 := m.2.2.2.2.2.2.2.2.2.2.1
def xM.nf (m : xM) : Nat → Int64 := m.2.2.2.2.2.2.2.2.2.2.2.1
def xM.wr (m : xM) : Int32 := m.2.2.2.2.2.2.2.2.2.2.2.2.1
def xM.wd (m : xM) : Int32 := m.2.2.2.2.2.2.2.2.2.2.2.2.2.1
def xM.mf (m : xM) : Nat → Int64 := m.2.2.2.2.2.2.2.2.2.2.2.2.2.2.1
def xM.vf (m : xM) : Nat → Int64 := m.2.2.2.2.2.2.2.2.2.2.2.2.2.2.2.1
def xM.be (m : xM) : Int64 := m.2.2.2.2.2.2.2.2.2.2.2.2.2.2.2.2.1
def xM.fa (m : xM) : Nat → Int32 := m.2.2.2.2.2.2.2.2.2.2.2.2.2.2.2.2.2.1
def xM.up (m : xM) : Int64 := m.2.2.2.2.2.2.2.2.2.2.2.2.2.2.2.2.2.2.1
def xM.dn (m : xM) : Int64 := m.2.2.2.2.2.2.2.2.2.2.2.2.2.2.2.2.2.2.2
def xM.s_df (m : xM) (x : Nat → Int32) : xM := (x, m.wf, m.st, m.af, m.cf, m.ty, m.pa, m.le, m.ri, m.re, m.rs, m.nf, m.wr, m.wd, m.mf, m.vf, m.be, m.fa, m.up, m.dn)
def xM.s_wf (m : xM) (x : Nat → Int32) : xM := (m.df, x, m.st, m.af, m.cf, m.ty, m.pa, m.le, m.ri, m.re, m.rs, m.nf, m.wr, m.wd, m.mf, m.vf, m.be, m.fa, m.up, m.dn)
def xM.s_st (m : xM) (x : Nat) : xM := (m.df, m.wf, x, m.af, m.cf, m.ty, m.pa, m.le, m.ri, m.re, m.rs, m.nf, m.wr, m.wd, m.mf, m.vf, m.be, m.fa, m.up, m.dn)
def xM.s_af (m : xM) (x : Nat → Int32) : xM := (m.df, m.wf, m.st, x, m.cf, m.ty, m.pa, m.le, m.ri, m.re, m.rs, m.nf, m.wr, m.wd, m.mf, m.vf, m.be, m.fa, m.up, m.dn)
def xM.s_cf (m : xM) (x : Nat → Int32) : xM := (m.df, m.wf, m.st, m.af, x, m.ty, m.pa, m.le, m.ri, m.re, m.rs, m.nf, m.wr, m.wd, m.mf, m.vf, m.be, m.fa, m.up, m.dn)
def xM.s_ty (m : xM) (x : Nat) : xM := (m.df, m.wf, m.st, m.af, m.cf, x, m.pa, m.le, m.ri, m.re, m.rs, m.nf, m.wr, m.wd, m.mf, m.vf, m.be, m.fa, m.up, m.dn)
def xM.s_pa (m : xM) (x : Int32) : xM := (m.df, m.wf, m.st, m.af, m.cf, m.ty, x, m.le, m.ri, m.re, m.rs, m.nf, m.wr, m.wd, m.mf, m.vf, m.be, m.fa, m.up, m.dn)
def xM.s_le (m : xM) (x : Int32) : xM := (m.df, m.wf, m.st, m.af, m.cf, m.ty, m.pa, x, m.ri, m.re, m.rs, m.nf, m.wr, m.wd, m.mf, m.vf, m.be, m.fa, m.up, m.dn)
def xM.s_ri (m : xM) (x : Int32) : xM := (m.df, m.wf, m.st, m.af, m.cf, m.ty, m.pa, m.le, x, m.re, m.rs, m.nf, m.wr, m.wd, m.mf, m.vf, m.be, m.fa, m.up, m.dn)
def xM.s_re (m : xM) (x : Int32) : xM := (m.df, m.wf, m.st, m.af, m.cf, m.ty, m.pa, m.le, m.ri, x, m.rs, m.nf, m.wr, m.wd, m.mf, m.vf, m.be, m.fa, m.up, m.dn)
def xM.s_rs (m : xM) (x : Int32) : xM := (m.df, m.wf, m.st, m.af, m.cf, m.ty, m.pa, m.le, m.ri, m.re, x, m.nf, m.wr, m.wd, m.mf, m.vf, m.be, m.fa, m.up, m.dn)
def xM.s_nf (m : xM) (x : Nat → Int64) : xM := (m.df, m.wf, m.st, m.af, m.cf, m.ty, m.pa, m.le, m.ri, m.re, m.rs, x, m.wr, m.wd, m.mf, m.vf, m.be, m.fa, m.up, m.dn)
def xM.s_wr (m : xM) (x : Int32) : xM := (m.df, m.wf, m.st, m.af, m.cf, m.ty, m.pa, m.le, m.ri, m.re, m.rs, m.nf, x, m.wd, m.mf, m.vf, m.be, m.fa, m.up, m.dn)
def xM.s_wd (m : xM) (x : Int32) : xM := (m.df, m.wf, m.st, m.af, m.cf, m.ty, m.pa, m.le, m.ri, m.re, m.rs, m.nf, m.wr, x, m.mf, m.vf, m.be, m.fa, m.up, m.dn)
def xM.s_mf (m : xM) (x : Nat → Int64) : xM := (m.df, m.wf, m.st, m.af, m.cf, m.ty, m.pa, m.le, m.ri, m.re, m.rs, m.nf, m.wr, m.wd, x, m.vf, m.be, m.fa, m.up, m.dn)
def xM.s_vf (m : xM) (x : Nat → Int64) : xM := (m.df, m.wf, m.st, m.af, m.cf, m.ty, m.pa, m.le, m.ri, m.re, m.rs, m.nf, m.wr, m.wd, m.mf, x, m.be, m.fa, m.up, m.dn)
def xM.s_be (m : xM) (x : Int64) : xM := (m.df, m.wf, m.st, m.af, m.cf, m.ty, m.pa, m.le, m.ri, m.re, m.rs, m.nf, m.wr, m.wd, m.mf, m.vf, x, m.fa, m.up, m.dn)
def xM.s_fa (m : xM) (x : Nat → Int32) : xM := (m.df, m.wf, m.st, m.af, m.cf, m.ty, m.pa, m.le, m.ri, m.re, m.rs, m.nf, m.wr, m.wd, m.mf, m.vf, m.be, x, m.up, m.dn)
def xM.s_up (m : xM) (x : Int64) : xM := (m.df, m.wf, m.st, m.af, m.cf, m.ty, m.pa, m.le, m.ri, m.re, m.rs, m.nf, m.wr, m.wd, m.mf, m.vf, m.be, m.fa, x, m.dn)
def xM.s_dn (m : xM) (x : Int64) : xM := (m.df, m.wf, m.st, m.af, m.cf, m.ty, m.pa, m.le, m.ri, m.re, m.rs, m.nf, m.wr, m.wd, m.mf, m.vf, m.be, m.fa, m.up, x)
def oM (m : xM) : xC := .inr (6, [.ref 52, .ref 53, .int (nI m.st), .ref 54, .ref 55, .int (nI m.ty), .int m.pa, .int m.le, .int m.ri, .int m.re, .int m.rs, .ref 56, .int m.wr, .int m.wd, .ref 57, .ref 58, .long m.be, .ref 59, .long m.up, .long m.dn])
def isM (w : xW) (m : xM) : Prop := rd w 51 = oM m ∧ rd w 52 = .inl (0, 112, .inl m.df) ∧ rd w 53 = .inl (0, 560, .inl m.wf) ∧ rd w 54 = .inl (0, 112, .inl m.af) ∧ rd w 55 = .inl (2, 80, .inl m.cf) ∧ rd w 56 = .inl (1, 30, .inr (.inl m.nf)) ∧ rd w 57 = .inl (1, 32, .inr (.inl m.mf)) ∧ rd w 58 = .inl (1, 5, .inr (.inl m.vf)) ∧ rd w 59 = .inl (0, 5, .inl m.fa)
theorem isM.fr {w w' : xW} {m : xM} {lo hi : Nat} (D : isM w m) (f : fr w w' lo hi) (ho : 60 ≤ lo ∨ hi ≤ 51) : isM w' m := by
  obtain ⟨h0, h1, h2, h3, h4, h5, h6, h7, h8⟩ := D
  exact ⟨(f.2.2 _ (by omega)).trans h0, (f.2.2 _ (by omega)).trans h1, (f.2.2 _ (by omega)).trans h2, (f.2.2 _ (by omega)).trans h3, (f.2.2 _ (by omega)).trans h4, (f.2.2 _ (by omega)).trans h5, (f.2.2 _ (by omega)).trans h6, (f.2.2 _ (by omega)).trans h7, (f.2.2 _ (by omega)).trans h8⟩
def lD (d : Nat → Int32) : Nat → Int32 := fun i => d (4 + i)
def rD (d : Nat → Int32) : Nat → Int32 := fun i => d (16 + i)
def tD (d : Nat → Int32) : Nat → Int32 := fun i => d (28 + i)
def mD (d : Nat → Int32) : Nat → Int32 := fun i => d (40 + i)
/-- the rows' number and the readings' numbers are within their limits -/
def vM (d : Nat → Int32) (n : Nat) : Prop := d 3 = nI n ∧ vT n (tD d)
theorem ix {a i k : Nat} (h : a + i < k) (hk : k ≤ 1000) : nI a + nI i = nI (a + i) ∧ x_pl (nI (a + i)) k ∧ (nI (a + i)).toNatClampNeg = a + i := ⟨nI_add _ _, x_pl_nI (by omega) (by omega), cl_nI (by omega)⟩
theorem ix4 {i : Nat} (h : i < 12) : (4 : Int32) + nI i = nI (4 + i) ∧ x_pl (nI (4 + i)) 112 ∧ (nI (4 + i)).toNatClampNeg = 4 + i := ix (a := 4) (by omega) (by omega)
theorem ix16 {i : Nat} (h : i < 12) : (16 : Int32) + nI i = nI (16 + i) ∧ x_pl (nI (16 + i)) 112 ∧ (nI (16 + i)).toNatClampNeg = 16 + i := ix (a := 16) (by omega) (by omega)
theorem ix28 {i : Nat} (h : i < 12) : (28 : Int32) + nI i = nI (28 + i) ∧ x_pl (nI (28 + i)) 112 ∧ (nI (28 + i)).toNatClampNeg = 28 + i := ix (a := 28) (by omega) (by omega)
theorem ix40 {i j : Nat} (hi : i < 12) (hj : j < 6) : (40 : Int32) + 6 * nI i + nI j = nI (40 + (6 * i + j)) ∧ x_pl (nI (40 + (6 * i + j))) 112 ∧ (nI (40 + (6 * i + j))).toNatClampNeg = 40 + (6 * i + j) := by
  refine ⟨?_, x_pl_nI (by omega) (by omega), cl_nI (by omega)⟩
  rw [show (40 : Int32) = nI 40 from rfl, show (6 : Int32) = nI 6 from rfl, pk_mul, nI_add, nI_add]
  exact congrArg nI (by omega)
theorem p112 : x_pl 0 112 ∧ x_pl 1 112 ∧ x_pl 2 112 ∧ x_pl 3 112 := ⟨x_pl_nI (j := 0) (by omega) (by omega), x_pl_nI (j := 1) (by omega) (by omega), x_pl_nI (j := 2) (by omega) (by omega), x_pl_nI (j := 3) (by omega) (by omega)⟩
section MR
variable {w : xW} {b : Nat} {m : xM} {n : Nat} {Q : Option Value → xW → Prop}
theorem bI_congr {c d : Prop} [Decidable c] [Decidable d] (h : c ↔ d) : bI c = bI d := by
  unfold bI
  by_cases e : c
  · rw [if_pos e, if_pos (h.mp e)]
  · rw [if_neg e, if_neg (fun q => e (h.mpr q))]
theorem c93 {a lo hi : Int32} : Wp 93 b 0 [.int a, .int lo, .int hi] [] w Q ↔ Q (some (.int (bI (lo ≤ a ∧ a ≤ hi)))) w := by
  simp only [q93_0, q93_1, q93_2, q93_5, q93_6, q93_7, q93_10, q93_11, q93_14, q93_15, gF0, gF1, gF2, gF3, gF4, gF5, gF6, gF7, gF8, gF9, gF10, gF11, gF12, gF13, gF14, gF15, gF16, gF17, gF18, gF19, pF0, pF1, pF2, pF3, pF4, pF5, pF6, pF7, pF8, pF9, pF10, pF11, pF12, pF13, pF14, pF15, pF16, pF17, pF18, pF19, aI_mk, aL_mk, aA_mk, sI_mk, sL_mk, sA_mk, isO_mk, rl_some, rl_none, true_and, and_true, true_or, or_true, wr_1]
  unfold bI
  by_cases c1 : a < lo
  · simp [c1, Int32.not_le.mpr c1]
  · by_cases c2 : hi < a
    · simp [c1, c2, Int32.not_le.mpr c2]
    · simp [c1, c2, Int32.not_lt.mp c1, Int32.not_lt.mp c2]
theorem x_ltm {r : Int32} {n : Nat} (hn : n ≤ 12) : (0 ≤ r ∧ r ≤ nI n - 1) ↔ (¬ r < 0 ∧ r < nI n) := by
  rw [Int32.not_lt]
  refine and_congr_right (fun _ => ?_)
  have h : (nI n).toInt = n := nI_toInt (by omega)
  have h2 : (nI n - 1).toInt = (n : Int) - 1 := by
    rw [Int32.toInt_sub, h, show ((1 : Int32).toInt) = 1 from rfl]
    rw [Int.bmod_def]
    omega
  rw [Int32.le_iff_toInt_le, Int32.lt_iff_toInt_lt, h, h2]
  omega
theorem c94 (D : isM w m) (v : vM m.df n) {r : Int32} : Wp 94 b 0 [.ref 51, .int r] [] w Q ↔ Q (some (.int (bI (¬ r < 0 ∧ r < nI n)))) w := by
  obtain ⟨h0, h1, -⟩ := D
  obtain ⟨v0, v1, -⟩ := v
  simp only [q94_0, q94_1, q94_2, q94_3, q94_6, q94_7, q94_8, q94_9, q94_10, q94_13, gF0, gF1, gF2, gF3, gF4, gF5, gF6, gF7, gF8, gF9, gF10, gF11, gF12, gF13, gF14, gF15, gF16, gF17, gF18, gF19, pF0, pF1, pF2, pF3, pF4, pF5, pF6, pF7, pF8, pF9, pF10, pF11, pF12, pF13, pF14, pF15, pF16, pF17, pF18, pF19, aI_mk, aL_mk, aA_mk, sI_mk, sL_mk, sA_mk, isO_mk, rl_some, rl_none, true_and, and_true, true_or, or_true, wr_1, h0, oM, h1, p112, Int32.reduceToNatClampNeg, v0, c93, bI_01, x_ltm v1]
theorem c95 (D : isM w m) (v : vM m.df n) {r k : Int32} : Wp 95 b 0 [.ref 51, .int r, .int k] [] w Q ↔ Q (some (.int (bI ((¬ r < 0 ∧ r < nI n) ∧ ¬ k < 0 ∧ k < tD m.df r.toNatClampNeg)))) w := by
  have D' := D
  have v' := v
  obtain ⟨h0, h1, -⟩ := D
  obtain ⟨v0, v1, v2⟩ := v
  by_cases c0 : ¬ r < 0 ∧ r < nI n
  · obtain ⟨i, hi, rfl⟩ := row_of v1 c0.1 c0.2
    have hcl : (nI i).toNatClampNeg = i := cl_nI (by omega)
    obtain ⟨t1, t2⟩ := v2 i hi
    have t1' : m.df (28 + i) = nI (tkF (tD m.df) i) := t1
    have z1 : ¬ (1 : Int32) = 0 := by decide
    simp only [q95_0, q95_1, q95_2, q95_5, q95_8, q95_9, q95_10, q95_11, q95_14, q95_16, q95_17, q95_18, q95_19, q95_20, q95_21, q95_24, q95_27, q95_28, q95_31, q95_32, gF0, gF1, gF2, gF3, gF4, gF5, gF6, gF7, gF8, gF9, gF10, gF11, gF12, gF13, gF14, gF15, gF16, gF17, gF18, gF19, pF0, pF1, pF2, pF3, pF4, pF5, pF6, pF7, pF8, pF9, pF10, pF11, pF12, pF13, pF14, pF15, pF16, pF17, pF18, pF19, aI_mk, aL_mk, aA_mk, sI_mk, sL_mk, sA_mk, isO_mk, rl_some, rl_none, true_and, and_true, true_or, or_true, wr_1, h0, oM, h1, c94 D' v', bI_t c0, z1, if_false, hcl, ix28 (show i < 12 by omega), t1', c93, x_ltm (show tkF (tD m.df) i ≤ 12 by omega), bI_0, z_01, o_01]
    rw [bI_congr (and_iff_right c0), t1]
    unfold bI
    by_cases c1 : ¬ nI i < 0 ∧ nI i < nI n
    · by_cases c2 : ¬ k < 0 ∧ k < nI (tkF (tD m.df) i)
      · simp [c2]
      · rw [if_pos c2, if_neg c2]
    · exact absurd c0 c1
  · simp only [q95_0, q95_1, q95_2, q95_5, q95_8, q95_9, q95_10, q95_11, q95_14, q95_16, q95_17, q95_18, q95_19, q95_20, q95_21, q95_24, q95_27, q95_28, q95_31, q95_32, gF0, gF1, gF2, gF3, gF4, gF5, gF6, gF7, gF8, gF9, gF10, gF11, gF12, gF13, gF14, gF15, gF16, gF17, gF18, gF19, pF0, pF1, pF2, pF3, pF4, pF5, pF6, pF7, pF8, pF9, pF10, pF11, pF12, pF13, pF14, pF15, pF16, pF17, pF18, pF19, aI_mk, aL_mk, aA_mk, sI_mk, sL_mk, sA_mk, isO_mk, rl_some, rl_none, true_and, and_true, true_or, or_true, wr_1, h0, oM, h1, c94 D' v', bI_f c0, if_true, z_01]
    rw [bI_f (fun q => c0 q.1)]
theorem c96 {x : Int32} : Wp 96 b 0 [.int x] [] w Q ↔ Q (some (.int (bI (1 ≤ x ∧ x ≤ 31)))) w := by
  simp only [q96_0, q96_1, q96_2, q96_4, q96_7, gF0, gF1, gF2, gF3, gF4, gF5, gF6, gF7, gF8, gF9, gF10, gF11, gF12, gF13, gF14, gF15, gF16, gF17, gF18, gF19, pF0, pF1, pF2, pF3, pF4, pF5, pF6, pF7, pF8, pF9, pF10, pF11, pF12, pF13, pF14, pF15, pF16, pF17, pF18, pF19, aI_mk, aL_mk, aA_mk, sI_mk, sL_mk, sA_mk, isO_mk, rl_some, rl_none, true_and, and_true, true_or, or_true, wr_1, c93, bI_01]
theorem c97 {x : Int32} : Wp 97 b 0 [.int x] [] w Q ↔ Q (some (.int (bI (0 ≤ x ∧ x ≤ 1)))) w := by
  simp only [q97_0, q97_1, q97_2, q97_3, q97_6, gF0, gF1, gF2, gF3, gF4, gF5, gF6, gF7, gF8, gF9, gF10, gF11, gF12, gF13, gF14, gF15, gF16, gF17, gF18, gF19, pF0, pF1, pF2, pF3, pF4, pF5, pF6, pF7, pF8, pF9, pF10, pF11, pF12, pF13, pF14, pF15, pF16, pF17, pF18, pF19, aI_mk, aL_mk, aA_mk, sI_mk, sL_mk, sA_mk, isO_mk, rl_some, rl_none, true_and, and_true, true_or, or_true, wr_1, c93, bI_01]
theorem c101 (D : isM w m) {i : Nat} {k : Int32} (hi : i < 12) : Wp 101 b 0 [.ref 51, .int (nI i), .int k] [] w Q ↔ Q (some (.int (sgF (lD m.df) (rD m.df) i k))) w := by
  obtain ⟨h0, h1, -⟩ := D
  simp only [q101_0, q101_1, q101_4, q101_5, q101_6, q101_7, q101_8, q101_9, q101_10, q101_11, q101_12, q101_13, q101_16, q101_18, q101_19, q101_20, q101_21, q101_22, q101_23, q101_24, q101_25, q101_26, gF0, gF1, gF2, gF3, gF4, gF5, gF6, gF7, gF8, gF9, gF10, gF11, gF12, gF13, gF14, gF15, gF16, gF17, gF18, gF19, pF0, pF1, pF2, pF3, pF4, pF5, pF6, pF7, pF8, pF9, pF10, pF11, pF12, pF13, pF14, pF15, pF16, pF17, pF18, pF19, aI_mk, aL_mk, aA_mk, sI_mk, sL_mk, sA_mk, isO_mk, rl_some, rl_none, true_and, and_true, true_or, or_true, wr_1, h0, oM, h1, ix4 hi, ix16 hi]
  rfl
theorem c102 (D : isM w m) : Wp 102 b 0 [.ref 51] [] w Q ↔ Q (some (.int (4 + m.df 1))) w := by
  obtain ⟨h0, h1, -⟩ := D
  simp only [q102_0, q102_1, q102_2, q102_5, q102_6, q102_7, q102_8, gF0, gF1, gF2, gF3, gF4, gF5, gF6, gF7, gF8, gF9, gF10, gF11, gF12, gF13, gF14, gF15, gF16, gF17, gF18, gF19, pF0, pF1, pF2, pF3, pF4, pF5, pF6, pF7, pF8, pF9, pF10, pF11, pF12, pF13, pF14, pF15, pF16, pF17, pF18, pF19, aI_mk, aL_mk, aA_mk, sI_mk, sL_mk, sA_mk, isO_mk, rl_some, rl_none, true_and, and_true, true_or, or_true, wr_1, h0, oM, h1, p112, Int32.reduceToNatClampNeg]
theorem c103 (D : isM w m) {i j : Nat} (hi : i < 12) (hj : j < 5) : Wp 103 b 0 [.ref 51, .int (nI i), .int (nI j)] [] w Q ↔ Q (some (.int (fcF (lD m.df) (rD m.df) i (nI j)))) w := by
  have D' := D
  obtain ⟨h0, h1, -⟩ := D
  simp only [q103_0, q103_1, q103_2, q103_5, q103_6, q103_7, q103_8, q103_9, q103_10, q103_13, q103_16, q103_17, gF0, gF1, gF2, gF3, gF4, gF5, gF6, gF7, gF8, gF9, gF10, gF11, gF12, gF13, gF14, gF15, gF16, gF17, gF18, gF19, pF0, pF1, pF2, pF3, pF4, pF5, pF6, pF7, pF8, pF9, pF10, pF11, pF12, pF13, pF14, pF15, pF16, pF17, pF18, pF19, aI_mk, aL_mk, aA_mk, sI_mk, sL_mk, sA_mk, isO_mk, rl_some, rl_none, true_and, and_true, true_or, or_true, wr_1, h0, oM, c101 D' hi]
  have e1 : (4 : Int32) ≤ nI j ↔ j = 4 := by rw [show (4 : Int32) = nI 4 from rfl, nI_le' (by omega) (by omega)]; omega
  have e2 : nI j = (4 : Int32) ↔ j = 4 := by rw [show (4 : Int32) = nI 4 from rfl, nI_eq' (by omega) (by omega)]
  unfold fcF
  by_cases c : j = 4
  · rw [if_pos (e1.mpr c), if_pos (e2.mpr c)]
  · rw [if_neg (fun q => c (e1.mp q)), if_neg (fun q => c (e2.mp q))]
theorem c104 (D : isM w m) {r k : Int32} : Wp 104 b 0 [.ref 51, .int r, .int k] [] w Q ↔ Q (some (.int (bI (r = m.wr ∧ (m.wd = -1 ∨ m.wd = k))))) w := by
  obtain ⟨h0, h1, -⟩ := D
  simp only [q104_0, q104_1, q104_2, q104_5, q104_8, q104_9, q104_12, q104_13, q104_16, q104_17, q104_20, q104_21, q104_24, q104_25, q104_28, q104_29, gF0, gF1, gF2, gF3, gF4, gF5, gF6, gF7, gF8, gF9, gF10, gF11, gF12, gF13, gF14, gF15, gF16, gF17, gF18, gF19, pF0, pF1, pF2, pF3, pF4, pF5, pF6, pF7, pF8, pF9, pF10, pF11, pF12, pF13, pF14, pF15, pF16, pF17, pF18, pF19, aI_mk, aL_mk, aA_mk, sI_mk, sL_mk, sA_mk, isO_mk, rl_some, rl_none, true_and, and_true, true_or, or_true, wr_1, h0, oM, z_01, o_01]
  unfold bI
  by_cases c1 : r = m.wr
  · by_cases c2 : m.wd = -1
    · simp [c1, c2]
    · by_cases c3 : m.wd = k
      · simp [c1, c2, c3]
      · simp [c1, c2, c3]
  · simp [c1]
theorem c105 (D : isM w m) {i j : Nat} (hi : i < 12) (hj : j < 6) : Wp 105 b 0 [.ref 51, .int (nI i), .int (nI j)] [] w Q ↔ Q (some (.long ((mD m.df (6 * i + j)).toInt64 - (sgF (lD m.df) (rD m.df) i 0).toInt64 * (m.df 0).toInt64))) w := by
  have D' := D
  obtain ⟨h0, h1, -⟩ := D
  simp only [q105_0, q105_1, q105_4, q105_6, q105_8, q105_9, q105_10, q105_11, q105_12, q105_13, q105_14, q105_15, q105_16, q105_17, q105_18, q105_21, q105_22, q105_23, q105_26, q105_27, q105_28, q105_29, q105_30, q105_31, gF0, gF1, gF2, gF3, gF4, gF5, gF6, gF7, gF8, gF9, gF10, gF11, gF12, gF13, gF14, gF15, gF16, gF17, gF18, gF19, pF0, pF1, pF2, pF3, pF4, pF5, pF6, pF7, pF8, pF9, pF10, pF11, pF12, pF13, pF14, pF15, pF16, pF17, pF18, pF19, aI_mk, aL_mk, aA_mk, sI_mk, sL_mk, sA_mk, isO_mk, rl_some, rl_none, true_and, and_true, true_or, or_true, wr_1, h0, oM, h1, p112, Int32.reduceToNatClampNeg, ix40 hi hj, c101 D' hi]
  rfl
theorem l112 (D : isM w m) (v : vM m.df n) {x y : Int32} : ∀ k i : Nat, i + k = n → (Wp 112 b 2 [.ref 51, .int x, .int y, .int (nI i)] [] w Q ↔ Q (some (.int (fndN (fun j => decide (lD m.df j = x ∧ rD m.df j = y)) k i))) w) := by
  obtain ⟨h0, h1, -⟩ := D
  obtain ⟨v0, hn, -⟩ := v
  intro k
  induction k with
  | zero =>
    intro i hi
    have hc : nI n ≤ nI i := nI_le (by omega) (by omega)
    simp only [q112_2, q112_3, q112_4, q112_7, q112_8, q112_9, q112_45, q112_46, gF0, gF1, gF2, gF3, gF4, gF5, gF6, gF7, gF8, gF9, gF10, gF11, gF12, gF13, gF14, gF15, gF16, gF17, gF18, gF19, pF0, pF1, pF2, pF3, pF4, pF5, pF6, pF7, pF8, pF9, pF10, pF11, pF12, pF13, pF14, pF15, pF16, pF17, pF18, pF19, aI_mk, aL_mk, aA_mk, sI_mk, sL_mk, sA_mk, isO_mk, rl_some, rl_none, true_and, and_true, true_or, or_true, wr_1, h0, oM, h1, p112, Int32.reduceToNatClampNeg, v0, if_pos hc]
    rfl
  | succ k ih =>
    intro i hi
    have hc : ¬ nI n ≤ nI i := by rw [nI_le' (by omega) (by omega)]; omega
    simp only [q112_2]
    simp only [q112_3, q112_4, q112_7, q112_8, q112_9, q112_12, q112_13, q112_16, q112_17, q112_18, q112_19, q112_20, q112_21, q112_24, q112_25, q112_28, q112_30, q112_31, q112_32, q112_33, q112_34, q112_37, q112_38, q112_39, q112_42, gF0, gF1, gF2, gF3, gF4, gF5, gF6, gF7, gF8, gF9, gF10, gF11, gF12, gF13, gF14, gF15, gF16, gF17, gF18, gF19, pF0, pF1, pF2, pF3, pF4, pF5, pF6, pF7, pF8, pF9, pF10, pF11, pF12, pF13, pF14, pF15, pF16, pF17, pF18, pF19, aI_mk, aL_mk, aA_mk, sI_mk, sL_mk, sA_mk, isO_mk, rl_some, rl_none, true_and, and_true, true_or, or_true, wr_1, h0, oM, h1, p112, Int32.reduceToNatClampNeg, v0, if_neg hc, ix4 (show i < 12 by omega), ix16 (show i < 12 by omega), nI_1]
    rw [ih (i + 1) (by omega)]
    show _ ↔ Q (some (.int (if decide (m.df (4 + i) = x ∧ m.df (16 + i) = y) = true then nI i else fndN _ k (i + 1)))) w
    by_cases a1 : m.df (4 + i) = x
    · by_cases a2 : m.df (16 + i) = y
      · simp [a1, a2]
      · simp [a1, a2]
    · simp [a1]
theorem c112 (D : isM w m) (v : vM m.df n) {x y : Int32} : Wp 112 b 0 [.ref 51, .int x, .int y, x_no] [] w Q ↔ Q (some (.int (fndN (fun j => decide (lD m.df j = x ∧ rD m.df j = y)) n 0))) w := by
  rw [q112_0, q112_1]
  exact l112 D v n 0 (by omega)
theorem x_tz {n : Nat} {tf : Nat → Int32} (v : vT n tf) {i : Nat} (hi : i < n) : tf i = 0 ↔ tf i ≤ 0 := by
  obtain ⟨t1, t2⟩ := v.2 i hi
  rw [t1, nI_z (by omega), show (0 : Int32) = nI 0 from rfl, nI_eq' (by omega) (by omega)]
theorem c119 (D : isM w m) (v : vM m.df n) {i : Nat} (hi : i < n) : Wp 119 b 0 [.ref 51, .int (nI i), x_no] [] w Q ↔ Q (some (.int (swF n (lD m.df) (rD m.df) (tD m.df) i))) w := by
  have D' := D
  have v' := v
  obtain ⟨h0, h1, -⟩ := D
  obtain ⟨v0, hn, -⟩ := v
  have i12 : i < 12 := by omega
  simp only [q119_0, q119_1, q119_2, q119_5, q119_7, q119_8, q119_9, q119_10, q119_11, q119_14, q119_15, q119_16, q119_17, q119_18, q119_21, q119_22, q119_23, q119_24, q119_27, q119_28, q119_31, q119_33, q119_34, q119_35, q119_36, q119_39, q119_40, q119_43, q119_45, q119_46, q119_47, q119_48, q119_51, q119_52, q119_55, q119_56, gF0, gF1, gF2, gF3, gF4, gF5, gF6, gF7, gF8, gF9, gF10, gF11, gF12, gF13, gF14, gF15, gF16, gF17, gF18, gF19, pF0, pF1, pF2, pF3, pF4, pF5, pF6, pF7, pF8, pF9, pF10, pF11, pF12, pF13, pF14, pF15, pF16, pF17, pF18, pF19, aI_mk, aL_mk, aA_mk, sI_mk, sL_mk, sA_mk, isO_mk, rl_some, rl_none, true_and, and_true, true_or, or_true, wr_1, h0, oM, h1, ix4 i12, ix16 i12, ix28 i12, c112 D' v']
  unfold swF
  show _ ↔ Q (some (.int (let z := fndN (fun j => decide (lD m.df j = rD m.df i ∧ rD m.df j = lD m.df i)) n 0; _))) w
  have hz := fndN_or (P := fun j => decide (lD m.df j = rD m.df i ∧ rD m.df j = lD m.df i)) n 0
  have e0 : fndN (fun j => decide (lD m.df j = m.df (16 + i) ∧ rD m.df j = m.df (4 + i))) n 0 = fndN (fun j => decide (lD m.df j = rD m.df i ∧ rD m.df j = lD m.df i)) n 0 := rfl
  rw [e0]
  generalize fndN (fun j => decide (lD m.df j = rD m.df i ∧ rD m.df j = lD m.df i)) n 0 = z at hz ⊢
  rcases hz with e | ⟨j, -, hj, -, e⟩
  · simp [e]
  · have hcl2 : (nI j).toNatClampNeg = j := cl_nI (by omega)
    have hm := nI_m1 (a := j) (by omega)
    have z1 := x_tz v'.2 hi
    have z2 := x_tz v'.2 (show j < n by omega)
    have z1' : m.df (28 + i) = 0 ↔ tD m.df i ≤ 0 := z1
    have z2' : m.df (28 + j) = 0 ↔ tD m.df j ≤ 0 := z2
    simp only [e, hm, ix28 (show j < 12 by omega), hcl2, if_false, true_and, z1', z2']
    by_cases a1 : tD m.df i ≤ 0
    · simp [a1]
    · by_cases a2 : tD m.df j ≤ 0
      · simp [a1, a2]
      · simp [a1, a2]
end MR
