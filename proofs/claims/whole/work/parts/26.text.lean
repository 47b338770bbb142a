/-! Text -/
def isX (w : xW) (t : Nat) (cf : Nat → Int32) (len : Nat) (l r a nx : Int32) : Prop := rd w t = .inr (3, [.ref (t + 1), .int (nI len), .int l, .int r, .int a, .int nx]) ∧ rd w (t + 1) = .inl (2, 80, .inl cf)
theorem isX.fr {w w' : xW} {t len lo hi : Nat} {cf : Nat → Int32} {l r a nx : Int32} (D : isX w t cf len l r a nx) (f : fr w w' lo hi) (ho : t + 2 ≤ lo ∨ hi ≤ t) : isX w' t cf len l r a nx := ⟨(f.2.2 _ (by omega)).trans D.1, (f.2.2 _ (by omega)).trans D.2⟩
def vX (cf : Nat → Int32) (len : Nat) : Prop := len ≤ 80 ∧ ∀ j, j < len → vp_nar .char (cf j) = cf j
/-- the character at a place; 0 behind the end -/
def chF (cf : Nat → Int32) (len p : Nat) : Int32 := if p < len then cf p else 0
theorem chF_lt {cf : Nat → Int32} {len p : Nat} {c : Int32} (h : chF cf len p = c) (hc : ¬ c = 0) : p < len := by
  unfold chF at h
  by_cases q : p < len
  · exact q
  · rw [if_neg q] at h
    exact absurd h.symm hc
theorem nI_z {k : Nat} (h : k ≤ 1000) : nI k ≤ 0 ↔ k = 0 := by
  rw [show (0 : Int32) = nI 0 from rfl, nI_le' h (by omega)]
  omega
section TX
variable {w : xW} {b t len p : Nat} {cf : Nat → Int32} {l r a : Int32} {Q : Option Value → xW → Prop}
theorem c52 (D : isX w t cf len l r a (nI p)) (v : vX cf len) (hp : p ≤ 80) : Wp 52 b 0 [.ref t] [] w Q ↔ Q (some (.int (chF cf len p))) w := by
  obtain ⟨h0, h1⟩ := D
  obtain ⟨v1, v2⟩ := v
  have n0 : vp_nar .char 0 = 0 := by decide
  unfold chF
  by_cases q : p < len
  · have hc : ¬ nI len ≤ nI p := by rw [nI_le' (by omega) (by omega)]; omega
    have hx : x_pl (nI p) 80 := x_pl_nI (by omega) (by omega)
    have hcl : (nI p).toNatClampNeg = p := cl_nI (by omega)
    simp only [q52_0, q52_1, q52_4, q52_5, q52_8, q52_11, q52_12, q52_15, q52_16, q52_19, q52_20, q52_23, q52_24, gF0, gF1, gF2, gF3, gF4, gF5, gF6, gF7, gF8, gF9, gF10, gF11, gF12, gF13, gF14, gF15, gF16, gF17, gF18, gF19, pF0, pF1, pF2, pF3, pF4, pF5, pF6, pF7, pF8, pF9, pF10, pF11, pF12, pF13, pF14, pF15, pF16, pF17, pF18, pF19, aI_mk, aL_mk, aA_mk, sI_mk, sL_mk, sA_mk, isO_mk, rl_some, rl_none, true_and, and_true, true_or, or_true, wr_1, h0, h1, if_neg hc, hx, hcl, v2 p q, if_pos q]
  · have hc : nI len ≤ nI p := nI_le (by omega) (by omega)
    simp only [q52_0, q52_1, q52_4, q52_5, q52_8, q52_11, q52_12, q52_15, q52_16, q52_19, q52_20, q52_23, q52_24, gF0, gF1, gF2, gF3, gF4, gF5, gF6, gF7, gF8, gF9, gF10, gF11, gF12, gF13, gF14, gF15, gF16, gF17, gF18, gF19, pF0, pF1, pF2, pF3, pF4, pF5, pF6, pF7, pF8, pF9, pF10, pF11, pF12, pF13, pF14, pF15, pF16, pF17, pF18, pF19, aI_mk, aL_mk, aA_mk, sI_mk, sL_mk, sA_mk, isO_mk, rl_some, rl_none, true_and, and_true, true_or, or_true, wr_1, h0, h1, if_pos hc, n0, if_neg q]
theorem c53 {c : Int32} : Wp 53 b 0 [.int c] [] w Q ↔ Q (some (.int (bI (48 ≤ c ∧ c ≤ 57)))) w := by
  simp only [q53_0, q53_1, q53_3, q53_6, q53_7, q53_9, q53_12, q53_13, q53_16, q53_17, gF0, gF1, gF2, gF3, gF4, gF5, gF6, gF7, gF8, gF9, gF10, gF11, gF12, gF13, gF14, gF15, gF16, gF17, gF18, gF19, pF0, pF1, pF2, pF3, pF4, pF5, pF6, pF7, pF8, pF9, pF10, pF11, pF12, pF13, pF14, pF15, pF16, pF17, pF18, pF19, aI_mk, aL_mk, aA_mk, sI_mk, sL_mk, sA_mk, isO_mk, rl_some, rl_none, true_and, and_true, true_or, or_true, wr_1]
  unfold bI
  by_cases c1 : c < 48
  · simp [c1, Int32.not_le.mpr c1]
  · by_cases c2 : 57 < c
    · simp [c1, c2, Int32.not_le.mpr c2]
    · simp [c1, c2, Int32.not_lt.mp c1, Int32.not_lt.mp c2]
theorem c51 (D : isX w t cf len l r a (nI p)) (v : vX cf len) (hp : p ≤ 80) {c : Int32} (hc : ¬ c = 0) (K0 : ¬ chF cf len p = c → Q (some (.int 0)) w) (K1 : ∀ w2, chF cf len p = c → p < len → fr w w2 t (t + 1) → isX w2 t cf len l r a (nI (p + 1)) → Q (some (.int 1)) w2) : Wp 51 b 0 [.ref t, .int c] [] w Q := by
  have D0 := D
  obtain ⟨h0, h1⟩ := D
  simp only [q51_0, q51_1, q51_4, q51_5, gF0, gF1, gF2, gF3, gF4, gF5, gF6, gF7, gF8, gF9, gF10, gF11, gF12, gF13, gF14, gF15, gF16, gF17, gF18, gF19, pF0, pF1, pF2, pF3, pF4, pF5, pF6, pF7, pF8, pF9, pF10, pF11, pF12, pF13, pF14, pF15, pF16, pF17, pF18, pF19, aI_mk, aL_mk, aA_mk, sI_mk, sL_mk, sA_mk, isO_mk, rl_some, rl_none, true_and, and_true, true_or, or_true, wr_1, h0, c52 D0 v hp]
  by_cases q : chF cf len p = c
  · simp only [q, if_true]
    simp only [q51_10, q51_11, q51_12, q51_15, q51_16, q51_17, q51_20, q51_21, gF0, gF1, gF2, gF3, gF4, gF5, gF6, gF7, gF8, gF9, gF10, gF11, gF12, gF13, gF14, gF15, gF16, gF17, gF18, gF19, pF0, pF1, pF2, pF3, pF4, pF5, pF6, pF7, pF8, pF9, pF10, pF11, pF12, pF13, pF14, pF15, pF16, pF17, pF18, pF19, aI_mk, aL_mk, aA_mk, sI_mk, sL_mk, sA_mk, isO_mk, rl_some, rl_none, true_and, and_true, true_or, or_true, wr_1, h0, nI_1]
    exact K1 _ q (chF_lt q hc) (fr.wr (by omega) (by omega)) ⟨rd_s, (rd_n (by omega)).trans h1⟩
  · simp only [q, if_false]
    simp only [q51_8, q51_9, gF0, gF1, gF2, gF3, gF4, gF5, gF6, gF7, gF8, gF9, gF10, gF11, gF12, gF13, gF14, gF15, gF16, gF17, gF18, gF19, pF0, pF1, pF2, pF3, pF4, pF5, pF6, pF7, pF8, pF9, pF10, pF11, pF12, pF13, pF14, pF15, pF16, pF17, pF18, pF19, aI_mk, aL_mk, aA_mk, sI_mk, sL_mk, sA_mk, isO_mk, rl_some, rl_none, true_and, and_true, true_or, or_true, wr_1]
    exact K0 q
/-- masses from the m-th on, k of them, ascending -/
def rmF (cf : Nat → Int32) (len : Nat) : Nat → Nat → Nat → Int32 → Int32 × Nat
  | 0, _, p, s => (s, p)
  | k + 1, m, p, s => if chF cf len p = nI (48 + m) then rmF cf len k (m + 1) (p + 1) (s ||| nI (2 ^ m)) else rmF cf len k (m + 1) p s
theorem x_dig : ∀ m, m < 5 → ((48 + nI m).toUInt32 % 65536).toInt32 = nI (48 + m) ∧ ¬ nI (48 + m) = 0 ∧ 1 <<< (nI m &&& 31) = nI (2 ^ m) := by decide +kernel
theorem l49 (v : vX cf len) : ∀ (k m p : Nat) (s : Int32) (w : xW), m + k = 5 → p ≤ 80 → isX w t cf len l r a (nI p) → (∀ w2, fr w w2 t (t + 1) → isX w2 t cf len l r a (nI (rmF cf len k m p s).2) → (rmF cf len k m p s).2 ≤ 80 → p ≤ (rmF cf len k m p s).2 → Q (some (.int (rmF cf len k m p s).1)) w2) → Wp 49 b 4 [.ref t, .int s, .int (nI m)] [] w Q := by
  intro k
  induction k with
  | zero =>
    intro m p s w hm hp D K
    have hc : (5 : Int32) ≤ nI m := by rw [show m = 5 by omega]; decide
    simp only [q49_4, q49_5, q49_6, q49_33, q49_34, gF0, gF1, gF2, gF3, gF4, gF5, gF6, gF7, gF8, gF9, gF10, gF11, gF12, gF13, gF14, gF15, gF16, gF17, gF18, gF19, pF0, pF1, pF2, pF3, pF4, pF5, pF6, pF7, pF8, pF9, pF10, pF11, pF12, pF13, pF14, pF15, pF16, pF17, pF18, pF19, aI_mk, aL_mk, aA_mk, sI_mk, sL_mk, sA_mk, isO_mk, rl_some, rl_none, true_and, and_true, true_or, or_true, wr_1, if_pos hc]
    exact K w fr.rf D hp (Nat.le_refl _)
  | succ k ih =>
    intro m p s w hm hp D K
    have D0 := D
    obtain ⟨h0, h1⟩ := D
    have hc : ¬ (5 : Int32) ≤ nI m := by rw [show (5 : Int32) = nI 5 from rfl, nI_le' (by omega) (by omega)]; omega
    obtain ⟨d1, d2, d3⟩ := x_dig m (by omega)
    simp only [q49_4]
    simp only [q49_5, q49_6, q49_9, q49_10, q49_12, q49_13, q49_14, q49_15, gF0, gF1, gF2, gF3, gF4, gF5, gF6, gF7, gF8, gF9, gF10, gF11, gF12, gF13, gF14, gF15, gF16, gF17, gF18, gF19, pF0, pF1, pF2, pF3, pF4, pF5, pF6, pF7, pF8, pF9, pF10, pF11, pF12, pF13, pF14, pF15, pF16, pF17, pF18, pF19, aI_mk, aL_mk, aA_mk, sI_mk, sL_mk, sA_mk, isO_mk, rl_some, rl_none, true_and, and_true, true_or, or_true, wr_1, if_neg hc, d1, h0]
    have hv := v.1
    refine c51 D0 v hp d2 (fun q => ?_) (fun w2 q hlt f2 D2 => ?_)
    · simp only [q49_18, q49_21, q49_22, q49_23, q49_24, q49_25, q49_26, q49_27, q49_30, gF0, gF1, gF2, gF3, gF4, gF5, gF6, gF7, gF8, gF9, gF10, gF11, gF12, gF13, gF14, gF15, gF16, gF17, gF18, gF19, pF0, pF1, pF2, pF3, pF4, pF5, pF6, pF7, pF8, pF9, pF10, pF11, pF12, pF13, pF14, pF15, pF16, pF17, pF18, pF19, aI_mk, aL_mk, aA_mk, sI_mk, sL_mk, sA_mk, isO_mk, rl_some, rl_none, true_and, and_true, true_or, or_true, wr_1, if_true, nI_1]
      have e : rmF cf len (k + 1) m p s = rmF cf len k (m + 1) p s := if_neg q
      rw [e] at K
      exact ih (m + 1) p s w (by omega) hp D0 K
    · have z1 : ¬ (1 : Int32) = 0 := by decide
      simp only [q49_18, q49_21, q49_22, q49_23, q49_24, q49_25, q49_26, q49_27, q49_30, gF0, gF1, gF2, gF3, gF4, gF5, gF6, gF7, gF8, gF9, gF10, gF11, gF12, gF13, gF14, gF15, gF16, gF17, gF18, gF19, pF0, pF1, pF2, pF3, pF4, pF5, pF6, pF7, pF8, pF9, pF10, pF11, pF12, pF13, pF14, pF15, pF16, pF17, pF18, pF19, aI_mk, aL_mk, aA_mk, sI_mk, sL_mk, sA_mk, isO_mk, rl_some, rl_none, true_and, and_true, true_or, or_true, wr_1, z1, if_false, nI_1, d3]
      have e : rmF cf len (k + 1) m p s = rmF cf len k (m + 1) (p + 1) (s ||| nI (2 ^ m)) := if_pos q
      rw [e] at K
      exact ih (m + 1) (p + 1) _ w2 (by omega) (by omega) D2 (fun w3 f3 D3 h80 hle => K w3 (f2.tr f3) D3 h80 (by omega))
theorem c49 (D : isX w t cf len l r a (nI p)) (v : vX cf len) (hp : p ≤ 80) (K : ∀ w2, fr w w2 t (t + 1) → isX w2 t cf len l r a (nI (rmF cf len 5 0 p 0).2) → (rmF cf len 5 0 p 0).2 ≤ 80 → p ≤ (rmF cf len 5 0 p 0).2 → Q (some (.int (rmF cf len 5 0 p 0).1)) w2) : Wp 49 b 0 [.ref t, x_no, x_no] [] w Q := by
  rw [q49_0, q49_1, q49_2, q49_3]
  exact l49 v 5 0 p 0 w (by omega) hp D K
/-- digits from p on, at most k -/
def dgF (cf : Nat → Int32) (len : Nat) : Nat → Nat → Int32 → Nat × Int32
  | 0, p, a => (p, a)
  | k + 1, p, a => if 48 ≤ chF cf len p ∧ chF cf len p ≤ 57 then dgF cf len k (p + 1) (a * 10 + (chF cf len p - 48)) else (p, a)
theorem dgF_le (cf : Nat → Int32) (len : Nat) : ∀ (k p : Nat) (a : Int32), p ≤ (dgF cf len k p a).1 ∧ (dgF cf len k p a).1 ≤ p + k ∧ (p ≤ 80 → len ≤ 80 → (dgF cf len k p a).1 ≤ 80)
  | 0, p, a => ⟨Nat.le_refl _, Nat.le_refl _, fun h _ => h⟩
  | k + 1, p, a => by
    by_cases h : 48 ≤ chF cf len p ∧ chF cf len p ≤ 57
    · have e : dgF cf len (k + 1) p a = dgF cf len k (p + 1) (a * 10 + (chF cf len p - 48)) := if_pos h
      obtain ⟨h1, h2, h3⟩ := dgF_le cf len k (p + 1) (a * 10 + (chF cf len p - 48))
      have hlt : p < len := by
        rcases Nat.lt_or_ge p len with q | q
        · exact q
        · have : chF cf len p = 0 := if_neg (by omega)
          rw [this] at h
          exact absurd h.1 (by decide)
      rw [e]
      exact ⟨by omega, by omega, fun h4 h5 => h3 (by omega) h5⟩
    · have e : dgF cf len (k + 1) p a = (p, a) := if_neg h
      rw [e]
      exact ⟨Nat.le_refl _, by omega, fun h _ => h⟩
theorem l50 (v : vX cf len) {neg : Int32} : ∀ (k g p : Nat) (x : Int32) (w : xW), g + k = 6 → p ≤ 80 → isX w t cf len l r a (nI p) → (∀ w2, fr w w2 t (t + 1) → isX w2 t cf len l r a (nI (dgF cf len k p x).1) → Wp 50 b 56 [.ref t, .int neg, .int (nI (g + ((dgF cf len k p x).1 - p))), .int (dgF cf len k p x).2] [] w2 Q) → Wp 50 b 11 [.ref t, .int neg, .int (nI g), .int x] [] w Q := by
  intro k
  induction k with
  | zero =>
    intro g p x w hg hp D K
    have hc : (6 : Int32) ≤ nI g := by rw [show g = 6 by omega]; decide
    simp only [q50_11, q50_12, q50_14, gF0, gF1, gF2, gF3, gF4, gF5, gF6, gF7, gF8, gF9, gF10, gF11, gF12, gF13, gF14, gF15, gF16, gF17, gF18, gF19, pF0, pF1, pF2, pF3, pF4, pF5, pF6, pF7, pF8, pF9, pF10, pF11, pF12, pF13, pF14, pF15, pF16, pF17, pF18, pF19, aI_mk, aL_mk, aA_mk, sI_mk, sL_mk, sA_mk, isO_mk, rl_some, rl_none, true_and, and_true, true_or, or_true, wr_1, if_pos hc]
    have := K w fr.rf D
    rw [show g + ((dgF cf len 0 p x).1 - p) = g by show g + (p - p) = g; omega] at this
    exact this
  | succ k ih =>
    intro g p x w hg hp D K
    have D0 := D
    obtain ⟨h0, h1⟩ := D
    have hc : ¬ (6 : Int32) ≤ nI g := by rw [show (6 : Int32) = nI 6 from rfl, nI_le' (by omega) (by omega)]; omega
    simp only [q50_11]
    simp only [q50_12, q50_14, q50_17, q50_18, q50_21, q50_24, gF0, gF1, gF2, gF3, gF4, gF5, gF6, gF7, gF8, gF9, gF10, gF11, gF12, gF13, gF14, gF15, gF16, gF17, gF18, gF19, pF0, pF1, pF2, pF3, pF4, pF5, pF6, pF7, pF8, pF9, pF10, pF11, pF12, pF13, pF14, pF15, pF16, pF17, pF18, pF19, aI_mk, aL_mk, aA_mk, sI_mk, sL_mk, sA_mk, isO_mk, rl_some, rl_none, true_and, and_true, true_or, or_true, wr_1, if_neg hc, h0, c52 D0 v hp, c53, bI_0]
    by_cases q : 48 ≤ chF cf len p ∧ chF cf len p ≤ 57
    · have e : dgF cf len (k + 1) p x = dgF cf len k (p + 1) (x * 10 + (chF cf len p - 48)) := if_pos q
      have hlt : p < len := by
        rcases Nat.lt_or_ge p len with z | z
        · exact z
        · have : chF cf len p = 0 := if_neg (by omega)
          rw [this] at q
          exact absurd q.1 (by decide)
      have hv := v.1
      simp only [q, and_self, not_true, if_false]
      simp only [q50_27, q50_28, q50_30, q50_31, q50_32, q50_35, q50_37, q50_38, q50_39, q50_40, q50_41, q50_42, q50_45, q50_46, q50_47, q50_50, q50_53, gF0, gF1, gF2, gF3, gF4, gF5, gF6, gF7, gF8, gF9, gF10, gF11, gF12, gF13, gF14, gF15, gF16, gF17, gF18, gF19, pF0, pF1, pF2, pF3, pF4, pF5, pF6, pF7, pF8, pF9, pF10, pF11, pF12, pF13, pF14, pF15, pF16, pF17, pF18, pF19, aI_mk, aL_mk, aA_mk, sI_mk, sL_mk, sA_mk, isO_mk, rl_some, rl_none, true_and, and_true, true_or, or_true, wr_1, h0, c52 D0 v hp, nI_1]
      have f2 : fr w (wr w t (.inr (3, [.ref (t + 1), .int (nI len), .int l, .int r, .int a, .int (nI (p + 1))]))) t (t + 1) := fr.wr (by omega) (by omega)
      have D2 : isX (wr w t (.inr (3, [.ref (t + 1), .int (nI len), .int l, .int r, .int a, .int (nI (p + 1))]))) t cf len l r a (nI (p + 1)) := ⟨rd_s, (rd_n (by omega)).trans h1⟩
      refine ih (g + 1) (p + 1) _ _ (by omega) (by omega) D2 (fun w3 f3 D3 => ?_)
      rw [e] at K
      have := K w3 (f2.tr f3) D3
      have l1 := (dgF_le cf len k (p + 1) (x * 10 + (chF cf len p - 48))).1
      rw [show g + ((dgF cf len k (p + 1) (x * 10 + (chF cf len p - 48))).1 - p) = g + 1 + ((dgF cf len k (p + 1) (x * 10 + (chF cf len p - 48))).1 - (p + 1)) by omega] at this
      exact this
    · have e : dgF cf len (k + 1) p x = (p, x) := if_neg q
      rw [if_pos q]
      rw [e] at K
      have := K w fr.rf D0
      rw [show g + ((p, x).1 - p) = g by show g + (p - p) = g; omega] at this
      exact this
/-- an amount: its sign, its digits; place and value behind -/
def amF (cf : Nat → Int32) (len p : Nat) : Nat × Int32 × Bool := let z := if chF cf len p = 45 then dgF cf len 6 (p + 1) 0 else dgF cf len 6 p 0
  (z.1, if chF cf len p = 45 then -z.2 else z.2, if chF cf len p = 45 then decide (p + 1 < z.1) else decide (p < z.1))
theorem c50 (D : isX w t cf len l r a (nI p)) (v : vX cf len) (hp : p ≤ 80) (K : ∀ w2, fr w w2 t (t + 1) → isX w2 t cf len l r (amF cf len p).2.1 (nI (amF cf len p).1) → (amF cf len p).1 ≤ 80 → p ≤ (amF cf len p).1 → Q (some (.int (bI ((amF cf len p).2.2 = true)))) w2) : Wp 50 b 0 [.ref t, x_no, x_no, x_no] [] w Q := by
  have D0 := D
  obtain ⟨h0, h1⟩ := D
  have hv := v.1
  have z1 : ¬ (1 : Int32) = 0 := by decide
  have c45 : ¬ (45 : Int32) = 0 := by decide
  simp only [q50_0, q50_1, q50_3, gF0, gF1, gF2, gF3, gF4, gF5, gF6, gF7, gF8, gF9, gF10, gF11, gF12, gF13, gF14, gF15, gF16, gF17, gF18, gF19, pF0, pF1, pF2, pF3, pF4, pF5, pF6, pF7, pF8, pF9, pF10, pF11, pF12, pF13, pF14, pF15, pF16, pF17, pF18, pF19, aI_mk, aL_mk, aA_mk, sI_mk, sL_mk, sA_mk, isO_mk, rl_some, rl_none, true_and, and_true, true_or, or_true, wr_1, h0]
  refine c51 D0 v hp c45 (fun q => ?_) (fun w2 q hlt f2 D2 => ?_)
  · simp only [q50_6, q50_7, q50_8, q50_9, q50_10, gF0, gF1, gF2, gF3, gF4, gF5, gF6, gF7, gF8, gF9, gF10, gF11, gF12, gF13, gF14, gF15, gF16, gF17, gF18, gF19, pF0, pF1, pF2, pF3, pF4, pF5, pF6, pF7, pF8, pF9, pF10, pF11, pF12, pF13, pF14, pF15, pF16, pF17, pF18, pF19, aI_mk, aL_mk, aA_mk, sI_mk, sL_mk, sA_mk, isO_mk, rl_some, rl_none, true_and, and_true, true_or, or_true, wr_1]
    refine l50 v 6 0 p 0 w (by omega) hp D0 (fun w3 f3 D3 => ?_)
    obtain ⟨k1, k2, k3⟩ := dgF_le cf len 6 p 0
    have e : amF cf len p = ((dgF cf len 6 p 0).1, (dgF cf len 6 p 0).2, decide (p < (dgF cf len 6 p 0).1)) := by
      unfold amF
      simp only [if_neg q]
    rw [e] at K
    have D30 := D3
    obtain ⟨g0, g1⟩ := D3
    simp only [q50_56, q50_57, q50_58, q50_61, q50_62, q50_63, q50_66, q50_67, q50_70, q50_71, q50_74, q50_75, q50_78, q50_79, gF0, gF1, gF2, gF3, gF4, gF5, gF6, gF7, gF8, gF9, gF10, gF11, gF12, gF13, gF14, gF15, gF16, gF17, gF18, gF19, pF0, pF1, pF2, pF3, pF4, pF5, pF6, pF7, pF8, pF9, pF10, pF11, pF12, pF13, pF14, pF15, pF16, pF17, pF18, pF19, aI_mk, aL_mk, aA_mk, sI_mk, sL_mk, sA_mk, isO_mk, rl_some, rl_none, true_and, and_true, true_or, or_true, wr_1, if_true, g0]
    have hf : fr w3 (wr w3 t (.inr (3, [.ref (t + 1), .int (nI len), .int l, .int r, .int (dgF cf len 6 p 0).2, .int (nI (dgF cf len 6 p 0).1)]))) t (t + 1) := fr.wr (by omega) (by omega)
    have := K _ (f3.tr hf) ⟨rd_s, (rd_n (by omega)).trans g1⟩ (k3 hp hv) k1
    by_cases c : p < (dgF cf len 6 p 0).1
    · have hc : ¬ nI (0 + ((dgF cf len 6 p 0).1 - p)) ≤ 0 := by rw [nI_z (by omega)]; omega
      rw [if_neg hc]
      rw [bI_t (by simpa using c)] at this
      exact this
    · have hc : nI (0 + ((dgF cf len 6 p 0).1 - p)) ≤ 0 := by rw [nI_z (by omega)]; omega
      rw [if_pos hc]
      rw [bI_f (by simpa using c)] at this
      exact this
  · simp only [q50_6, q50_7, q50_8, q50_9, q50_10, gF0, gF1, gF2, gF3, gF4, gF5, gF6, gF7, gF8, gF9, gF10, gF11, gF12, gF13, gF14, gF15, gF16, gF17, gF18, gF19, pF0, pF1, pF2, pF3, pF4, pF5, pF6, pF7, pF8, pF9, pF10, pF11, pF12, pF13, pF14, pF15, pF16, pF17, pF18, pF19, aI_mk, aL_mk, aA_mk, sI_mk, sL_mk, sA_mk, isO_mk, rl_some, rl_none, true_and, and_true, true_or, or_true, wr_1]
    refine l50 v 6 0 (p + 1) 0 w2 (by omega) (by omega) D2 (fun w3 f3 D3 => ?_)
    obtain ⟨k1, k2, k3⟩ := dgF_le cf len 6 (p + 1) 0
    have e : amF cf len p = ((dgF cf len 6 (p + 1) 0).1, -(dgF cf len 6 (p + 1) 0).2, decide (p + 1 < (dgF cf len 6 (p + 1) 0).1)) := by
      unfold amF
      simp only [if_pos q]
    rw [e] at K
    have D30 := D3
    obtain ⟨g0, g1⟩ := D3
    simp only [q50_56, q50_57, q50_58, q50_61, q50_62, q50_63, q50_66, q50_67, q50_70, q50_71, q50_74, q50_75, q50_78, q50_79, gF0, gF1, gF2, gF3, gF4, gF5, gF6, gF7, gF8, gF9, gF10, gF11, gF12, gF13, gF14, gF15, gF16, gF17, gF18, gF19, pF0, pF1, pF2, pF3, pF4, pF5, pF6, pF7, pF8, pF9, pF10, pF11, pF12, pF13, pF14, pF15, pF16, pF17, pF18, pF19, aI_mk, aL_mk, aA_mk, sI_mk, sL_mk, sA_mk, isO_mk, rl_some, rl_none, true_and, and_true, true_or, or_true, wr_1, z1, if_false, g0]
    have hf : fr w3 (wr w3 t (.inr (3, [.ref (t + 1), .int (nI len), .int l, .int r, .int (-(dgF cf len 6 (p + 1) 0).2), .int (nI (dgF cf len 6 (p + 1) 0).1)]))) t (t + 1) := fr.wr (by omega) (by omega)
    have := K _ ((f2.tr f3).tr hf) ⟨rd_s, (rd_n (by omega)).trans g1⟩ (k3 (by omega) hv) (Nat.le_trans (Nat.le_succ p) k1)
    by_cases c : p + 1 < (dgF cf len 6 (p + 1) 0).1
    · have hc : ¬ nI (0 + ((dgF cf len 6 (p + 1) 0).1 - (p + 1))) ≤ 0 := by rw [nI_z (by omega)]; omega
      rw [if_neg hc]
      rw [bI_t (by simpa using c)] at this
      exact this
    · have hc : nI (0 + ((dgF cf len 6 (p + 1) 0).1 - (p + 1))) ≤ 0 := by rw [nI_z (by omega)]; omega
      rw [if_pos hc]
      rw [bI_f (by simpa using c)] at this
      exact this
end TX
