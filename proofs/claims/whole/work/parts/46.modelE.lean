/-- what reading a text leaves behind -/
def xM.s_T (m : xM) (pa le ri re rs : Int32) : xM := (m.df, m.wf, m.st, m.af, m.cf, m.ty, pa, le, ri, re, rs, m.nf, m.wr, m.wd, m.mf, m.vf, m.be, m.fa, m.up, m.dn)
theorem s_T_df {m : xM} {a b c d e : Int32} : (m.s_T a b c d e).df = m.df := id rfl
theorem s_T_wf {m : xM} {a b c d e : Int32} : (m.s_T a b c d e).wf = m.wf := id rfl
theorem s_T_st {m : xM} {a b c d e : Int32} : (m.s_T a b c d e).st = m.st := id rfl
theorem s_T_af {m : xM} {a b c d e : Int32} : (m.s_T a b c d e).af = m.af := id rfl
theorem s_T_cf {m : xM} {a b c d e : Int32} : (m.s_T a b c d e).cf = m.cf := id rfl
theorem s_T_ty {m : xM} {a b c d e : Int32} : (m.s_T a b c d e).ty = m.ty := id rfl
theorem s_T_pa {m : xM} {a b c d e : Int32} : (m.s_T a b c d e).pa = a := id rfl
theorem s_T_le {m : xM} {a b c d e : Int32} : (m.s_T a b c d e).le = b := id rfl
theorem s_T_ri {m : xM} {a b c d e : Int32} : (m.s_T a b c d e).ri = c := id rfl
theorem s_T_re {m : xM} {a b c d e : Int32} : (m.s_T a b c d e).re = d := id rfl
theorem s_T_rs {m : xM} {a b c d e : Int32} : (m.s_T a b c d e).rs = e := id rfl
theorem s_T_nf {m : xM} {a b c d e : Int32} : (m.s_T a b c d e).nf = m.nf := id rfl
theorem s_T_wr {m : xM} {a b c d e : Int32} : (m.s_T a b c d e).wr = m.wr := id rfl
theorem s_T_wd {m : xM} {a b c d e : Int32} : (m.s_T a b c d e).wd = m.wd := id rfl
theorem s_T_mf {m : xM} {a b c d e : Int32} : (m.s_T a b c d e).mf = m.mf := id rfl
theorem s_T_vf {m : xM} {a b c d e : Int32} : (m.s_T a b c d e).vf = m.vf := id rfl
theorem s_T_be {m : xM} {a b c d e : Int32} : (m.s_T a b c d e).be = m.be := id rfl
theorem s_T_fa {m : xM} {a b c d e : Int32} : (m.s_T a b c d e).fa = m.fa := id rfl
theorem s_T_up {m : xM} {a b c d e : Int32} : (m.s_T a b c d e).up = m.up := id rfl
theorem s_T_dn {m : xM} {a b c d e : Int32} : (m.s_T a b c d e).dn = m.dn := id rfl
theorem t_T_T {m : xM} {a b c d e a' b' c' d' e' : Int32} : (m.s_T a b c d e).s_T a' b' c' d' e' = m.s_T a' b' c' d' e' := id rfl
theorem t_T_pa {m : xM} {a b c d e x : Int32} : (m.s_T a b c d e).s_pa x = m.s_T x b c d e := id rfl
theorem t_T_self {m : xM} : m.s_T m.pa m.le m.ri m.re m.rs = m := id rfl
theorem kM.T {m : xM} {a b c d e : Int32} : kM m (m.s_T a b c d e) := by
  unfold kM
  simp only [s_T_df, s_T_wf, s_T_st, s_T_cf, s_T_ty, s_T_wr, s_T_wd]
  exact ⟨trivial, trivial, trivial, trivial, trivial, trivial, trivial⟩
section MRE
variable {b : Nat} {m : xM} {n U len : Nat} {Q : Option Value → xW → Prop} {le ri re rs : Int32}
theorem isM.T0 {w : xW} {pa : Int32} (D : isM w (m.s_T pa le ri re rs)) : rd w 51 = .inr (6, [.ref 52, .ref 53, .int (nI m.st), .ref 54, .ref 55, .int (nI m.ty), .int pa, .int le, .int ri, .int re, .int rs, .ref 56, .int m.wr, .int m.wd, .ref 57, .ref 58, .long m.be, .ref 59, .long m.up, .long m.dn]) ∧ rd w 55 = .inl (2, 80, .inl m.cf) ∧ rd w 52 = .inl (0, 112, .inl m.df) := by
  obtain ⟨h0, h1, -, -, h4, -⟩ := D
  simp only [oM, s_T_df, s_T_st, s_T_cf, s_T_ty, s_T_pa, s_T_le, s_T_ri, s_T_re, s_T_rs, s_T_wr, s_T_wd, s_T_be, s_T_up, s_T_dn] at h0 h1 h4
  exact ⟨h0, h4, h1⟩
theorem isM.T1 {w : xW} {pa : Int32} (D : isM w (m.s_T pa le ri re rs)) (a b c d e : Int32) : isM (wr w 51 (.inr (6, [.ref 52, .ref 53, .int (nI m.st), .ref 54, .ref 55, .int (nI m.ty), .int a, .int b, .int c, .int d, .int e, .ref 56, .int m.wr, .int m.wd, .ref 57, .ref 58, .long m.be, .ref 59, .long m.up, .long m.dn]))) (m.s_T a b c d e) := by
  have D1 : isM (wr w 51 (oM (m.s_T a b c d e))) (m.s_T a b c d e) := D.s51 (by simp only [s_T_df, s_T_wf, s_T_af, s_T_cf, s_T_nf, s_T_mf, s_T_vf, s_T_fa])
  simp only [oM, s_T_df, s_T_st, s_T_cf, s_T_ty, s_T_pa, s_T_le, s_T_ri, s_T_re, s_T_rs, s_T_wr, s_T_wd, s_T_be, s_T_up, s_T_dn] at D1
  exact D1
theorem e145 {w : xW} {p : Nat} {c : Int32} (D : isM w (m.s_T (nI p) le ri re rs)) (hl : m.ty = len) (h80 : len ≤ 80) (hp : p ≤ 80) (hc0 : ¬ c = 0) (K0 : ∀ w2, ¬ chF m.cf len p = c → fr w w2 51 60 → isM w2 (m.s_T (nI p) le ri re rs) → Q (some (.int 0)) w2) (K1 : ∀ w2, chF m.cf len p = c → p < len → fr w w2 51 60 → isM w2 (m.s_T (nI (p + 1)) le ri re rs) → Q (some (.int 1)) w2) : Wp 145 b 0 [.ref 51, .int c, x_no] [] w Q := by
  have D1 : isM w ((m.s_T (nI p) le ri re rs).s_pa (nI p)) := by
    rw [t_T_pa]
    exact D
  refine c145 D1 (len := len) (by rw [s_T_ty, hl]) h80 hp hc0 (fun w2 h1 f2 D2 => ?_) (fun w2 h1 h2 f2 D2 => ?_)
  · rw [t_T_pa] at D2
    rw [s_T_cf] at h1
    exact K0 w2 h1 f2 D2
  · rw [t_T_pa] at D2
    rw [s_T_cf] at h1
    exact K1 w2 h1 h2 f2 D2
theorem e146 {w : xW} {p : Nat} (D : isM w (m.s_T (nI p) le ri re rs)) (hl : m.ty = len) (h80 : len ≤ 80) (hp : p ≤ 80) (K : ∀ w2, fr w w2 51 60 → isM w2 (m.s_T (nI (rmF m.cf len 5 0 p 0).2) le ri re rs) → (rmF m.cf len 5 0 p 0).2 ≤ 80 → p ≤ (rmF m.cf len 5 0 p 0).2 → Q (some (.int (rmF m.cf len 5 0 p 0).1)) w2) : Wp 146 b 0 [.ref 51, x_no] [] w Q := by
  have D1 : isM w ((m.s_T (nI p) le ri re rs).s_pa (nI p)) := by
    rw [t_T_pa]
    exact D
  refine c146 D1 (len := len) (by rw [s_T_ty, hl]) h80 hp (fun w2 f2 D2 h1 h2 => ?_)
  rw [t_T_pa] at D2
  rw [s_T_cf] at D2 h1 h2 ⊢
  exact K w2 f2 D2 h1 h2
theorem x_rm32 {cf : Nat → Int32} {len : Nat} : ∀ (k j p S : Nat), j + k = 5 → S < 32 → ∃ S2, S2 < 32 ∧ (rmF cf len k j p (nI S)).1 = nI S2 := by
  intro k
  induction k with
  | zero => exact fun j p S _ hS => ⟨S, hS, rfl⟩
  | succ k ih =>
    intro j p S hj hS
    have b := x_bsh S hS j (by omega)
    have h32 : ∀ S, S < 32 → ∀ d, d < 5 → S ||| 2 ^ d < 32 := by decide
    by_cases e : chF cf len p = nI (48 + j)
    · have : rmF cf len (k + 1) j p (nI S) = rmF cf len k (j + 1) (p + 1) (nI S ||| nI (2 ^ j)) := if_pos e
      rw [this, b.2.2.1]
      exact ih (j + 1) (p + 1) _ (by omega) (h32 S hS j (by omega))
    · have : rmF cf len (k + 1) j p (nI S) = rmF cf len k (j + 1) p (nI S) := if_neg e
      rw [this]
      exact ih (j + 1) p S (by omega) hS
theorem x_rm0 {cf : Nat → Int32} {len p : Nat} : (rmF cf len 5 0 p 0).1 ≤ 0 ↔ (rmF cf len 5 0 p 0).1 = 0 := by
  obtain ⟨S, hS, e⟩ := x_rm32 (cf := cf) (len := len) 5 0 p 0 (by omega) (by omega)
  have e' : (rmF cf len 5 0 p 0).1 = nI S := e
  rw [e', nI_z (by omega), show (0 : Int32) = nI 0 from rfl, nI_eq' (by omega) (by omega)]
theorem x_dg (a c : Int32) : 10 * a + c - 48 = a * 10 + (c - 48) := by
  rw [Int32.mul_comm, Int32.sub_eq_add_neg, Int32.sub_eq_add_neg, Int32.add_assoc]
/-- the digits -/
theorem l147 {x2 : Int32} {p0 : Nat} (hl : m.ty = len) (h80 : len ≤ 80) : ∀ (k g : Nat) (re : Int32) (w : xW), g + k = 6 → p0 + g ≤ 80 → isM w (m.s_T (nI (p0 + g)) le ri re rs) → (∀ w2, fr w w2 51 60 → isM w2 (m.s_T (nI (dgF m.cf len k (p0 + g) re).1) le ri (dgF m.cf len k (p0 + g) re).2 rs) → Wp 147 b 167 [.ref 51, .int 1, .int x2, .int (nI p0)] [] w2 Q) → Wp 147 b 85 [.ref 51, .int 1, .int x2, .int (nI p0)] [] w Q := by
  have z1 : ¬ (1 : Int32) = 0 := by decide
  have hp6 : nI p0 + 6 = nI (p0 + 6) := nI_add p0 6
  intro k
  induction k with
  | zero =>
    intro g re w hg hp D K
    obtain ⟨h0, h4, -⟩ := D.T0
    have K0 := K w fr.rf D
    have c2 : nI (p0 + 6) ≤ nI (p0 + g) := by rw [show g = 6 by omega]; exact nI_le (by omega) (by omega)
    by_cases q : p0 + g < len
    · have hc : ¬ nI m.ty ≤ nI (p0 + g) := by rw [hl, nI_le' (by omega) (by omega)]; omega
      simp only [q147_85, q147_86, q147_89, q147_90, q147_93, q147_94, q147_97, q147_100, q147_101, q147_104, q147_105, q147_107, q147_108, gF0, gF1, gF2, gF3, gF4, gF5, gF6, gF7, gF8, gF9, gF10, gF11, gF12, gF13, gF14, gF15, gF16, gF17, gF18, gF19, pF0, pF1, pF2, pF3, pF4, pF5, pF6, pF7, pF8, pF9, pF10, pF11, pF12, pF13, pF14, pF15, pF16, pF17, pF18, pF19, aI_mk, aL_mk, aA_mk, sI_mk, sL_mk, sA_mk, isO_mk, rl_some, rl_none, true_and, and_true, true_or, or_true, wr_1, z1, if_false, h0, if_neg hc, hp6, if_pos c2]
      exact K0
    · have hc : nI m.ty ≤ nI (p0 + g) := by rw [hl]; exact nI_le (by omega) (by omega)
      simp only [q147_85, q147_86, q147_89, q147_90, q147_93, q147_94, q147_97, gF0, gF1, gF2, gF3, gF4, gF5, gF6, gF7, gF8, gF9, gF10, gF11, gF12, gF13, gF14, gF15, gF16, gF17, gF18, gF19, pF0, pF1, pF2, pF3, pF4, pF5, pF6, pF7, pF8, pF9, pF10, pF11, pF12, pF13, pF14, pF15, pF16, pF17, pF18, pF19, aI_mk, aL_mk, aA_mk, sI_mk, sL_mk, sA_mk, isO_mk, rl_some, rl_none, true_and, and_true, true_or, or_true, wr_1, z1, if_false, h0, if_pos hc]
      exact K0
  | succ k ih =>
    intro g re w hg hp D K
    obtain ⟨h0, h4, -⟩ := D.T0
    have c2 : ¬ nI (p0 + 6) ≤ nI (p0 + g) := by rw [nI_le' (by omega) (by omega)]; omega
    by_cases q : p0 + g < len
    · have hc : ¬ nI m.ty ≤ nI (p0 + g) := by rw [hl, nI_le' (by omega) (by omega)]; omega
      have hx : x_pl (nI (p0 + g)) 80 := x_pl_nI (by omega) (by omega)
      have hcl : (nI (p0 + g)).toNatClampNeg = p0 + g := cl_nI (by omega)
      have ec : chF m.cf len (p0 + g) = m.cf (p0 + g) := if_pos q
      by_cases d : 48 ≤ m.cf (p0 + g) ∧ m.cf (p0 + g) ≤ 57
      · have e : dgF m.cf len (k + 1) (p0 + g) re = dgF m.cf len k (p0 + g + 1) (re * 10 + (m.cf (p0 + g) - 48)) := by
          rw [← ec] at d ⊢
          exact if_pos d
        rw [e] at K
        have D1 := (D.T1 (nI (p0 + g)) le ri (re * 10 + (m.cf (p0 + g) - 48)) rs).T1 (nI (p0 + (g + 1))) le ri (re * 10 + (m.cf (p0 + g) - 48)) rs
        have R := ih (g + 1) (re * 10 + (m.cf (p0 + g) - 48)) _ (by omega) (by omega) D1 (fun w3 f3 D3 => K w3 (((fr.wr (by omega) (by omega)).tr (fr.wr (by omega) (by omega))).tr f3) D3)
        simp only [q147_85]
        simp only [q147_86, q147_89, q147_90, q147_93, q147_94, q147_97, q147_100, q147_101, q147_104, q147_105, q147_107, q147_108, q147_111, q147_112, q147_115, q147_116, q147_119, q147_120, q147_122, q147_124, q147_127, q147_130, q147_131, q147_133, q147_134, q147_137, q147_138, q147_139, q147_142, q147_143, q147_146, q147_147, q147_148, q147_150, q147_151, q147_154, q147_155, q147_156, q147_159, q147_160, q147_161, q147_164, gF0, gF1, gF2, gF3, gF4, gF5, gF6, gF7, gF8, gF9, gF10, gF11, gF12, gF13, gF14, gF15, gF16, gF17, gF18, gF19, pF0, pF1, pF2, pF3, pF4, pF5, pF6, pF7, pF8, pF9, pF10, pF11, pF12, pF13, pF14, pF15, pF16, pF17, pF18, pF19, aI_mk, aL_mk, aA_mk, sI_mk, sL_mk, sA_mk, isO_mk, rl_some, rl_none, true_and, and_true, true_or, or_true, wr_1, z1, if_false, h0, h4, if_neg hc, hp6, if_neg c2, hx, hcl, c93, bI_t d, x_dg, rd_s, nI_1]
        exact R
      · have e : dgF m.cf len (k + 1) (p0 + g) re = (p0 + g, re) := by
          rw [← ec] at d
          exact if_neg d
        rw [e] at K
        have K0 := K w fr.rf D
        simp only [q147_85]
        simp only [q147_86, q147_89, q147_90, q147_93, q147_94, q147_97, q147_100, q147_101, q147_104, q147_105, q147_107, q147_108, q147_111, q147_112, q147_115, q147_116, q147_119, q147_120, q147_122, q147_124, q147_127, gF0, gF1, gF2, gF3, gF4, gF5, gF6, gF7, gF8, gF9, gF10, gF11, gF12, gF13, gF14, gF15, gF16, gF17, gF18, gF19, pF0, pF1, pF2, pF3, pF4, pF5, pF6, pF7, pF8, pF9, pF10, pF11, pF12, pF13, pF14, pF15, pF16, pF17, pF18, pF19, aI_mk, aL_mk, aA_mk, sI_mk, sL_mk, sA_mk, isO_mk, rl_some, rl_none, true_and, and_true, true_or, or_true, wr_1, z1, if_false, h0, h4, if_neg hc, hp6, if_neg c2, hx, hcl, c93, bI_f d, if_true]
        exact K0
    · have hc : nI m.ty ≤ nI (p0 + g) := by rw [hl]; exact nI_le (by omega) (by omega)
      have ec : chF m.cf len (p0 + g) = 0 := if_neg q
      have e : dgF m.cf len (k + 1) (p0 + g) re = (p0 + g, re) := by
        refine if_neg (fun z => ?_)
        rw [ec] at z
        exact absurd z.1 (by decide)
      rw [e] at K
      have K0 := K w fr.rf D
      simp only [q147_85]
      simp only [q147_86, q147_89, q147_90, q147_93, q147_94, q147_97, gF0, gF1, gF2, gF3, gF4, gF5, gF6, gF7, gF8, gF9, gF10, gF11, gF12, gF13, gF14, gF15, gF16, gF17, gF18, gF19, pF0, pF1, pF2, pF3, pF4, pF5, pF6, pF7, pF8, pF9, pF10, pF11, pF12, pF13, pF14, pF15, pF16, pF17, pF18, pF19, aI_mk, aL_mk, aA_mk, sI_mk, sL_mk, sA_mk, isO_mk, rl_some, rl_none, true_and, and_true, true_or, or_true, wr_1, z1, if_false, h0, if_pos hc]
      exact K0
end MRE
