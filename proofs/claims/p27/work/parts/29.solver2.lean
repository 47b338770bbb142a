section SW
variable {w : xW} {b o v : Nat} {s p l u : Int32} {n U : Nat} {lf rf tf mf : Nat → Int32} {det : Int64} {N : Nat → Nat → Int64} {S M V : Nat → Int64} {Q : Option Value → xW → Prop}
/-- the equations and the sums of a design -/
def gN (n : Nat) (lf rf tf : Nat → Int32) (i j : Nat) : Int64 := foldN (fun a r => a + wN lf rf r (tf r) i j) n 0 0
def gS (n : Nat) (s : Int32) (lf rf tf mf : Nat → Int32) (i : Nat) : Int64 := foldN (fun a r => a + wS s lf rf r (tf r) (smF mf (tkF tf r) r) i) n 0 0
theorem foldN_snoc {α : Type} {g : α → Nat → α} : ∀ (k i : Nat) (a : α), foldN g (k + 1) i a = g (foldN g k i a) (i + k)
  | 0, _, _ => rfl
  | k + 1, i, a => by
    show foldN g (k + 1) (i + 1) (g a i) = g (foldN g k (i + 1) (g a i)) (i + (k + 1))
    rw [foldN_snoc k (i + 1), show i + 1 + k = i + (k + 1) by omega]
theorem l39c (hT : vT n tf) (hU : U ≤ 5) (hs : o + 5 ≤ v ∨ v + 10 ≤ o) : ∀ (k i : Nat) (w : xW) (N : Nat → Nat → Int64) (S : Nat → Int64) (v3 : Value), i + k = n → isD w o s p l n lf rf tf mf → isS w v (nI U) det N S M V → (∀ a c, a < U → c < U → N a c = gN i lf rf tf a c) → (∀ a, a < U → S a = gS i s lf rf tf mf a) → (∀ w2 N2 S2, fr w w2 v (v + 10) → isS w2 v (nI U) det N2 S2 M V → (∀ a c, a < U → c < U → N2 a c = gN n lf rf tf a c) → (∀ a, a < U → S2 a = gS n s lf rf tf mf a) → Q none w2) → Wp 39 b 52 [.ref v, .ref o, .int (nI i), v3] [] w Q := by
  obtain ⟨hn, hT⟩ := hT
  intro k
  induction k with
  | zero =>
    intro i w N S v3 hi D H e1 e2 K
    have hc : nI n ≤ nI i := nI_le (by omega) (by omega)
    obtain ⟨d0, -⟩ := D
    simp only [q39_52, q39_53, q39_54, q39_57, q39_83, gF0, gF1, gF2, gF3, gF4, gF5, gF6, gF7, gF8, gF9, gF10, gF11, gF12, gF13, gF14, gF15, gF16, gF17, gF18, gF19, pF0, pF1, pF2, pF3, pF4, pF5, pF6, pF7, pF8, pF9, pF10, pF11, pF12, pF13, pF14, pF15, pF16, pF17, pF18, pF19, aI_mk, aL_mk, aA_mk, sI_mk, sL_mk, sA_mk, isO_mk, rl_some, rl_none, true_and, and_true, true_or, or_true, wr_1, d0, if_pos hc]
    have e : i = n := by omega
    subst e
    exact K w N S fr.rf H e1 e2
  | succ k ih =>
    intro i w N S v3 hi D H e1 e2 K
    have hc : ¬ nI n ≤ nI i := by rw [nI_le' (by omega) (by omega)]; omega
    have D0 := D
    obtain ⟨d0, d1, d2, d3, d4⟩ := D
    have hx : x_pl (nI i) 12 := x_pl_nI (by omega) (by omega)
    have hcl : (nI i).toNatClampNeg = i := cl_nI (by omega)
    obtain ⟨h0, -⟩ := id H
    obtain ⟨t1, t2⟩ := hT i (by omega)
    simp only [q39_52]
    simp only [q39_53, q39_54, q39_57, q39_60, q39_61, q39_62, q39_63, q39_64, q39_67, q39_68, q39_69, q39_70, q39_71, q39_74, gF0, gF1, gF2, gF3, gF4, gF5, gF6, gF7, gF8, gF9, gF10, gF11, gF12, gF13, gF14, gF15, gF16, gF17, gF18, gF19, pF0, pF1, pF2, pF3, pF4, pF5, pF6, pF7, pF8, pF9, pF10, pF11, pF12, pF13, pF14, pF15, pF16, pF17, pF18, pF19, aI_mk, aL_mk, aA_mk, sI_mk, sL_mk, sA_mk, isO_mk, rl_some, rl_none, true_and, and_true, true_or, or_true, wr_1, d0, d3, h0, if_neg hc, hx, hcl, c14 D0 (show i < 12 by omega) t1 t2]
    refine c40 D0 H (by omega) hU hs (fun w2 N2 S2 f2 H2 k1 k2 => ?_)
    simp only [q39_77, q39_80, gF0, gF1, gF2, gF3, gF4, gF5, gF6, gF7, gF8, gF9, gF10, gF11, gF12, gF13, gF14, gF15, gF16, gF17, gF18, gF19, pF0, pF1, pF2, pF3, pF4, pF5, pF6, pF7, pF8, pF9, pF10, pF11, pF12, pF13, pF14, pF15, pF16, pF17, pF18, pF19, aI_mk, aL_mk, aA_mk, sI_mk, sL_mk, sA_mk, isO_mk, rl_some, rl_none, true_and, and_true, true_or, or_true, wr_1, nI_1]
    refine ih (i + 1) w2 N2 S2 v3 (by omega) (D0.fr f2 (by omega)) H2 (fun a c ha hc => ?_) (fun a ha => ?_) (fun w3 N3 S3 f3 => K w3 N3 S3 (f2.tr f3))
    · rw [k1 a c ha hc, e1 a c ha hc]
      unfold gN
      rw [foldN_snoc, Nat.zero_add]
    · rw [k2 a ha, e2 a ha]
      unfold gS
      rw [foldN_snoc, Nat.zero_add]
theorem l39b {i : Nat} (hi : i < 5) : ∀ (k j : Nat) (w : xW) (N : Nat → Nat → Int64), j + k = 5 → isS w v u det N S M V → (∀ w2 N2, fr w w2 v (v + 10) → isS w2 v u det N2 S M V → (∀ a c, N2 a c = if a = i ∧ j ≤ c ∧ c < 5 then 0 else N a c) → Wp 39 b 44 [.ref v, .ref o, .int (nI i), .int (nI 5)] [] w2 Q) → Wp 39 b 24 [.ref v, .ref o, .int (nI i), .int (nI j)] [] w Q := by
  have hx : x_pl (nI i) 5 := x_pl_nI (by omega) (by omega)
  have hcl : (nI i).toNatClampNeg = i := cl_nI (by omega)
  intro k
  induction k with
  | zero =>
    intro j w N hj H K
    have e : j = 5 := by omega
    subst e
    have hc : (5 : Int32) ≤ nI 5 := by decide
    simp only [q39_24, q39_25, q39_26, gF0, gF1, gF2, gF3, gF4, gF5, gF6, gF7, gF8, gF9, gF10, gF11, gF12, gF13, gF14, gF15, gF16, gF17, gF18, gF19, pF0, pF1, pF2, pF3, pF4, pF5, pF6, pF7, pF8, pF9, pF10, pF11, pF12, pF13, pF14, pF15, pF16, pF17, pF18, pF19, aI_mk, aL_mk, aA_mk, sI_mk, sL_mk, sA_mk, isO_mk, rl_some, rl_none, true_and, and_true, true_or, or_true, wr_1, if_pos hc]
    exact K w N fr.rf H (fun a c => by rw [if_neg (by omega)])
  | succ k ih =>
    intro j w N hj H K
    have hc : ¬ (5 : Int32) ≤ nI j := by rw [show (5 : Int32) = nI 5 from rfl, nI_le' (by omega) (by omega)]; omega
    have H0 := H
    obtain ⟨h0, ⟨g, h1, h2⟩, h3, h4, h5, h6⟩ := H
    have hy : x_pl (nI j) 5 := x_pl_nI (by omega) (by omega)
    have hyl : (nI j).toNatClampNeg = j := cl_nI (by omega)
    simp only [q39_24]
    simp only [q39_25, q39_26, q39_29, q39_30, q39_33, q39_34, q39_35, q39_36, q39_37, q39_38, q39_41, gF0, gF1, gF2, gF3, gF4, gF5, gF6, gF7, gF8, gF9, gF10, gF11, gF12, gF13, gF14, gF15, gF16, gF17, gF18, gF19, pF0, pF1, pF2, pF3, pF4, pF5, pF6, pF7, pF8, pF9, pF10, pF11, pF12, pF13, pF14, pF15, pF16, pF17, pF18, pF19, aI_mk, aL_mk, aA_mk, sI_mk, sL_mk, sA_mk, isO_mk, rl_some, rl_none, true_and, and_true, true_or, or_true, wr_1, h0, h1, if_neg hc, hx, hcl, h2 i hi, h3 i hi, hy, hyl, Option.some.injEq, exists_eq_left', nI_1]
    have hf : fr w (wr w (v + 2 + i) (.inl (1, 5, .inr (.inl (vp_updL (N i) j 0))))) v (v + 10) := fr.wr (by omega) (by omega)
    refine ih (j + 1) _ _ (by omega) (H0.sN hi) (fun w2 N2 f2 H2 e2 => K w2 N2 (hf.tr f2) H2 (fun a c => ?_))
    rw [e2 a c]
    unfold upG
    by_cases c1 : a = i
    · by_cases c2 : c = j
      · rw [if_neg (by omega), if_pos ⟨c1, c2⟩, if_pos (by omega)]
      · by_cases c3 : j + 1 ≤ c ∧ c < 5
        · rw [if_pos ⟨c1, c3⟩, if_pos (by omega)]
        · rw [if_neg (by omega), if_neg (by omega), if_neg (by omega)]
    · rw [if_neg (by omega), if_neg (by omega), if_neg (by omega)]
theorem l39a : ∀ (k i : Nat) (w : xW) (N : Nat → Nat → Int64) (S : Nat → Int64) (v3 : Value), i + k = 5 → isS w v u det N S M V → (∀ a c, a < i → c < 5 → N a c = 0) → (∀ a, a < i → S a = 0) → (∀ w2 N2 S2 v3, fr w w2 v (v + 10) → isS w2 v u det N2 S2 M V → (∀ a c, a < 5 → c < 5 → N2 a c = 0) → (∀ a, a < 5 → S2 a = 0) → Wp 39 b 50 [.ref v, .ref o, .int (nI 5), v3] [] w2 Q) → Wp 39 b 10 [.ref v, .ref o, .int (nI i), v3] [] w Q := by
  intro k
  induction k with
  | zero =>
    intro i w N S v3 hi H e1 e2 K
    have e : i = 5 := by omega
    subst e
    have hc : (5 : Int32) ≤ nI 5 := by decide
    simp only [q39_10, q39_11, q39_12, gF0, gF1, gF2, gF3, gF4, gF5, gF6, gF7, gF8, gF9, gF10, gF11, gF12, gF13, gF14, gF15, gF16, gF17, gF18, gF19, pF0, pF1, pF2, pF3, pF4, pF5, pF6, pF7, pF8, pF9, pF10, pF11, pF12, pF13, pF14, pF15, pF16, pF17, pF18, pF19, aI_mk, aL_mk, aA_mk, sI_mk, sL_mk, sA_mk, isO_mk, rl_some, rl_none, true_and, and_true, true_or, or_true, wr_1, if_pos hc]
    exact K w N S v3 fr.rf H e1 e2
  | succ k ih =>
    intro i w N S v3 hi H e1 e2 K
    have hc : ¬ (5 : Int32) ≤ nI i := by rw [show (5 : Int32) = nI 5 from rfl, nI_le' (by omega) (by omega)]; omega
    have H0 := H
    obtain ⟨h0, ⟨g, h1, h2⟩, h3, h4, h5, h6⟩ := H
    have hx : x_pl (nI i) 5 := x_pl_nI (by omega) (by omega)
    have hcl : (nI i).toNatClampNeg = i := cl_nI (by omega)
    simp only [q39_10]
    simp only [q39_11, q39_12, q39_15, q39_16, q39_19, q39_20, q39_21, q39_22, q39_23, gF0, gF1, gF2, gF3, gF4, gF5, gF6, gF7, gF8, gF9, gF10, gF11, gF12, gF13, gF14, gF15, gF16, gF17, gF18, gF19, pF0, pF1, pF2, pF3, pF4, pF5, pF6, pF7, pF8, pF9, pF10, pF11, pF12, pF13, pF14, pF15, pF16, pF17, pF18, pF19, aI_mk, aL_mk, aA_mk, sI_mk, sL_mk, sA_mk, isO_mk, rl_some, rl_none, true_and, and_true, true_or, or_true, wr_1, h0, h4, if_neg hc, hx, hcl]
    have hf : fr w (wr w (v + 7) (.inl (1, 5, .inr (.inl (vp_updL S i 0))))) v (v + 10) := fr.wr (by omega) (by omega)
    refine l39b (i := i) (by omega) 5 0 _ N (by omega) H0.sS (fun w2 N2 f2 H2 k1 => ?_)
    simp only [q39_44, q39_47, gF0, gF1, gF2, gF3, gF4, gF5, gF6, gF7, gF8, gF9, gF10, gF11, gF12, gF13, gF14, gF15, gF16, gF17, gF18, gF19, pF0, pF1, pF2, pF3, pF4, pF5, pF6, pF7, pF8, pF9, pF10, pF11, pF12, pF13, pF14, pF15, pF16, pF17, pF18, pF19, aI_mk, aL_mk, aA_mk, sI_mk, sL_mk, sA_mk, isO_mk, rl_some, rl_none, true_and, and_true, true_or, or_true, wr_1, nI_1]
    refine ih (i + 1) w2 N2 _ _ (by omega) H2 (fun a c ha hc => ?_) (fun a ha => ?_) (fun w3 N3 S3 v3 f3 => K w3 N3 S3 v3 ((hf.tr f2).tr f3))
    · rw [k1 a c]
      by_cases e : a = i
      · rw [if_pos (by omega)]
      · rw [if_neg (by omega)]
        exact e1 a c (by omega) hc
    · by_cases e : a = i
      · rw [e, pk_uLs]
      · rw [pk_uLn e]
        exact e2 a (by omega)
/-- how many unknown numbers: 4, with the pan 5 -/
def isU (p : Int32) (U : Nat) : Prop := 4 + p = nI U ∧ (U = 4 ∨ U = 5)
theorem c39 (D : isD w o s p l n lf rf tf mf) (H : isS w v u det N S M V) (hT : vT n tf) (hp : isU p U) (hs : o + 5 ≤ v ∨ v + 10 ≤ o) (K : ∀ w2 N2 S2, fr w w2 v (v + 10) → isS w2 v (nI U) det N2 S2 M V → (∀ a c, a < U → c < U → N2 a c = gN n lf rf tf a c) → (∀ a, a < U → S2 a = gS n s lf rf tf mf a) → Q none w2) : Wp 39 b 0 [.ref v, .ref o, x_no, x_no] [] w Q := by
  obtain ⟨hp, hU⟩ := hp
  have H0 := H
  have D0 := D
  obtain ⟨h0, -⟩ := H
  obtain ⟨d0, -⟩ := D
  simp only [q39_0, q39_1, q39_2, q39_5, q39_8, q39_9, gF0, gF1, gF2, gF3, gF4, gF5, gF6, gF7, gF8, gF9, gF10, gF11, gF12, gF13, gF14, gF15, gF16, gF17, gF18, gF19, pF0, pF1, pF2, pF3, pF4, pF5, pF6, pF7, pF8, pF9, pF10, pF11, pF12, pF13, pF14, pF15, pF16, pF17, pF18, pF19, aI_mk, aL_mk, aA_mk, sI_mk, sL_mk, sA_mk, isO_mk, rl_some, rl_none, true_and, and_true, true_or, or_true, wr_1, h0, d0, c12 D0, hp]
  have hf : fr w (wr w v (.inr (2, [.ref (v + 1), .ref (v + 7), .ref (v + 8), .ref (v + 9), .int (nI U), .long det]))) v (v + 10) := fr.wr (by omega) (by omega)
  refine l39a 5 0 _ N S _ (by omega) H0.s0 (fun a c ha => absurd ha (Nat.not_lt_zero _)) (fun a ha => absurd ha (Nat.not_lt_zero _)) (fun w2 N2 S2 v3 f2 H2 e1 e2 => ?_)
  simp only [q39_50, q39_51, gF0, gF1, gF2, gF3, gF4, gF5, gF6, gF7, gF8, gF9, gF10, gF11, gF12, gF13, gF14, gF15, gF16, gF17, gF18, gF19, pF0, pF1, pF2, pF3, pF4, pF5, pF6, pF7, pF8, pF9, pF10, pF11, pF12, pF13, pF14, pF15, pF16, pF17, pF18, pF19, aI_mk, aL_mk, aA_mk, sI_mk, sL_mk, sA_mk, isO_mk, rl_some, rl_none, true_and, and_true, true_or, or_true, wr_1]
  exact l39c hT (by omega) hs n 0 w2 N2 S2 v3 (by omega) ((D0.fr hf (by omega)).fr f2 (by omega)) H2 (fun a c ha hc => e1 a c (by omega) (by omega)) (fun a ha => e2 a (by omega)) (fun w3 N3 S3 f3 => K w3 N3 S3 ((hf.tr f2).tr f3))
/-! determinants -/
/-- how many columns a set has -/
def pcN (c : Nat) : Nat := c % 2 + c / 2 % 2 + c / 4 % 2 + c / 8 % 2 + c / 16 % 2
/-- a set of columns, expanded by the row E, from the column k - 1 down -/
def xpF (E M : Nat → Int64) (c : Nat) : Nat → Int64 → Int32 → Int64
  | 0, a, _ => a
  | k + 1, a, g => if c / 2 ^ k % 2 = 1 then xpF E M c k (a + g.toInt64 * E k * M (c - 2 ^ k)) (-g) else xpF E M c k a g
theorem xpF_congr {E E' M M' : Nat → Int64} {c : Nat} : ∀ (k : Nat) (a : Int64) (g : Int32), (∀ j, j < k → E j = E' j) → (∀ j, j < k → c / 2 ^ j % 2 = 1 → M (c - 2 ^ j) = M' (c - 2 ^ j)) → xpF E M c k a g = xpF E' M' c k a g
  | 0, _, _, _, _ => rfl
  | k + 1, a, g, h1, h2 => by
    show (if c / 2 ^ k % 2 = 1 then xpF E M c k (a + g.toInt64 * E k * M (c - 2 ^ k)) (-g) else xpF E M c k a g) = (if c / 2 ^ k % 2 = 1 then xpF E' M' c k (a + g.toInt64 * E' k * M' (c - 2 ^ k)) (-g) else xpF E' M' c k a g)
    by_cases h : c / 2 ^ k % 2 = 1
    · rw [if_pos h, if_pos h, h1 k (by omega), h2 k (by omega) h]
      exact xpF_congr k _ _ (fun j hj => h1 j (by omega)) (fun j hj => h2 j (by omega))
    · rw [if_neg h, if_neg h]
      exact xpF_congr k _ _ (fun j hj => h1 j (by omega)) (fun j hj => h2 j (by omega))
/-- the minors of the sets up to k -/
def mnT (U : Nat) (E : Nat → Nat → Int64) : Nat → (Nat → Int64)
  | 0 => fun _ => 1
  | k + 1 => vp_updL (mnT U E k) (k + 1) (xpF (E (pcN (k + 1) - 1)) (mnT U E k) (k + 1) U 0 1)
/-- the determinant -/
def dtF (U : Nat) (E : Nat → Nat → Int64) : Int64 := mnT U E (2 ^ U - 1) (2 ^ U - 1)
theorem x_bits : ∀ c, c < 32 → ∀ k, k < 5 → ((nI c >>> (nI k &&& 31) &&& 1 = 1) ↔ c / 2 ^ k % 2 = 1) ∧ (c / 2 ^ k % 2 = 1 → nI c &&& (((1 : Int32) <<< (nI k &&& 31)) ^^^ (-1)) = nI (c - 2 ^ k)) := by decide +kernel
theorem x_bc : ∀ c, c < 32 → bcF (nI c) = nI (pcN c) ∧ (c ≠ 0 → 1 ≤ pcN c) ∧ pcN c ≤ 5 ∧ nI (pcN c) - 1 = if c = 0 then -1 else nI (pcN c - 1) := by decide +kernel
/-- the entries: the sums stand in the place of the column q -/
def enF (q : Int32) (N : Nat → Nat → Int64) (S : Nat → Int64) (r c : Nat) : Int64 := if nI c = q then S r else N r c
theorem l45 (H : isS w v (nI U) det N S M V) {c : Nat} {q : Int32} {row : Nat} (hc : c < 32) (hrow : row < 5) : ∀ (k : Nat) (a : Int64) (g : Int32) (v8 : Value), k ≤ 5 → (Wp 45 b 21 [.ref v, .int (nI c), .int q, .int (nI row), .long a, x_no, .int g, .int (nI k - 1), v8, x_no] [] w Q ↔ Q (some (.long (xpF (enF q N S row) M c k a g))) w) := by
  obtain ⟨h0, ⟨f, h1, h2⟩, h3, h4, h5, h6⟩ := H
  have hr : x_pl (nI row) 5 := x_pl_nI (by omega) (by omega)
  have hrl : (nI row).toNatClampNeg = row := cl_nI (by omega)
  intro k
  induction k with
  | zero =>
    intro a g v8 _
    have e : nI 0 - 1 = -1 := by decide
    have hm : (-1 : Int32) < 0 := by decide
    simp only [q45_21, q45_23, q45_98, q45_100, gF0, gF1, gF2, gF3, gF4, gF5, gF6, gF7, gF8, gF9, gF10, gF11, gF12, gF13, gF14, gF15, gF16, gF17, gF18, gF19, pF0, pF1, pF2, pF3, pF4, pF5, pF6, pF7, pF8, pF9, pF10, pF11, pF12, pF13, pF14, pF15, pF16, pF17, pF18, pF19, aI_mk, aL_mk, aA_mk, sI_mk, sL_mk, sA_mk, isO_mk, rl_some, rl_none, true_and, and_true, true_or, or_true, wr_1, e, if_pos hm]
    rfl
  | succ k ih =>
    intro a g v8 hk
    have e : nI (k + 1) - 1 = nI k := nI_pred k
    have hm : ¬ nI k < 0 := nI_pos (by omega)
    obtain ⟨b1, b2⟩ := x_bits c hc k (by omega)
    have e2 : nI k + Int32.ofInt (-1) = nI k - 1 := by
      rw [show Int32.ofInt (-1) = -1 from rfl, Int32.sub_eq_add_neg]
    have hy : x_pl (nI k) 5 := x_pl_nI (by omega) (by omega)
    have hyl : (nI k).toNatClampNeg = k := cl_nI (by omega)
    rw [e]
    simp only [q45_21]
    simp only [q45_23, q45_26, q45_27, q45_29, q45_30, q45_31, q45_32, q45_33, gF0, gF1, gF2, gF3, gF4, gF5, gF6, gF7, gF8, gF9, gF10, gF11, gF12, gF13, gF14, gF15, gF16, gF17, gF18, gF19, pF0, pF1, pF2, pF3, pF4, pF5, pF6, pF7, pF8, pF9, pF10, pF11, pF12, pF13, pF14, pF15, pF16, pF17, pF18, pF19, aI_mk, aL_mk, aA_mk, sI_mk, sL_mk, sA_mk, isO_mk, rl_some, rl_none, true_and, and_true, true_or, or_true, wr_1, if_neg hm]
    by_cases hb : c / 2 ^ k % 2 = 1
    · have ex : xpF (enF q N S row) M c (k + 1) a g = xpF (enF q N S row) M c k (a + g.toInt64 * enF q N S row k * M (c - 2 ^ k)) (-g) := if_pos hb
      rw [ex]
      have hle : c - 2 ^ k ≤ c := Nat.sub_le _ _
      have hz : x_pl (nI (c - 2 ^ k)) 32 := x_pl_nI (by omega) (by omega)
      have hzl : (nI (c - 2 ^ k)).toNatClampNeg = c - 2 ^ k := cl_nI (by omega)
      simp only [b1.mpr hb, not_true, if_false]
      simp only [q45_36, q45_38, q45_39, q45_42, q45_43, q45_46, q45_47, q45_48, q45_51, q45_52, q45_55, q45_56, q45_57, q45_59, q45_60, q45_62, q45_64, q45_66, q45_67, q45_69, q45_70, q45_71, q45_74, q45_75, q45_76, q45_78, q45_79, q45_80, q45_81, q45_82, q45_83, q45_84, q45_85, q45_87, q45_89, q45_90, q45_92, q45_95, gF0, gF1, gF2, gF3, gF4, gF5, gF6, gF7, gF8, gF9, gF10, gF11, gF12, gF13, gF14, gF15, gF16, gF17, gF18, gF19, pF0, pF1, pF2, pF3, pF4, pF5, pF6, pF7, pF8, pF9, pF10, pF11, pF12, pF13, pF14, pF15, pF16, pF17, pF18, pF19, aI_mk, aL_mk, aA_mk, sI_mk, sL_mk, sA_mk, isO_mk, rl_some, rl_none, true_and, and_true, true_or, or_true, wr_1, h0, h1, h4, h5, hr, hrl, h2 row hrow, h3 row hrow, hy, hyl, Option.some.injEq, exists_eq_left', b2 hb, hz, hzl, e2]
      unfold enF
      by_cases hq : nI k = q
      · simp only [hq, not_true, if_false, if_true]
        have := ih (a + g.toInt64 * S row * M (c - 2 ^ k)) (-g) (.long (S row)) (by omega)
        rw [← hq] at this ⊢
        exact this
      · simp only [hq, not_false_eq_true, if_true, if_false]
        exact ih (a + g.toInt64 * N row k * M (c - 2 ^ k)) (-g) (.long (N row k)) (by omega)
    · have ex : xpF (enF q N S row) M c (k + 1) a g = xpF (enF q N S row) M c k a g := if_neg hb
      rw [ex]
      have hb2 : ¬ nI c >>> (nI k &&& 31) &&& 1 = 1 := fun z => hb (b1.mp z)
      simp only [hb2, not_false_eq_true, if_true]
      simp only [q45_92, q45_95, gF0, gF1, gF2, gF3, gF4, gF5, gF6, gF7, gF8, gF9, gF10, gF11, gF12, gF13, gF14, gF15, gF16, gF17, gF18, gF19, pF0, pF1, pF2, pF3, pF4, pF5, pF6, pF7, pF8, pF9, pF10, pF11, pF12, pF13, pF14, pF15, pF16, pF17, pF18, pF19, aI_mk, aL_mk, aA_mk, sI_mk, sL_mk, sA_mk, isO_mk, rl_some, rl_none, true_and, and_true, true_or, or_true, wr_1, e2]
      exact ih a g v8 (by omega)
theorem c45 (H : isS w v (nI U) det N S M V) {c : Nat} {q : Int32} (hc : c < 32) (h0c : c ≠ 0) (hU : U ≤ 5) : Wp 45 b 0 [.ref v, .int (nI c), .int q, x_no, x_no, x_no, x_no, x_no, x_no, x_no] [] w Q ↔ Q (some (.long (xpF (enF q N S (pcN c - 1)) M c U 0 1))) w := by
  have H0 := H
  obtain ⟨h0, -⟩ := H
  obtain ⟨b1, b2, b3, b4⟩ := x_bc c hc
  have := b2 h0c
  rw [if_neg h0c] at b4
  simp only [q45_0, q45_1, q45_4, q45_5, q45_6, q45_7, q45_8, q45_10, q45_11, q45_13, q45_14, q45_17, q45_18, q45_19, gF0, gF1, gF2, gF3, gF4, gF5, gF6, gF7, gF8, gF9, gF10, gF11, gF12, gF13, gF14, gF15, gF16, gF17, gF18, gF19, pF0, pF1, pF2, pF3, pF4, pF5, pF6, pF7, pF8, pF9, pF10, pF11, pF12, pF13, pF14, pF15, pF16, pF17, pF18, pF19, aI_mk, aL_mk, aA_mk, sI_mk, sL_mk, sA_mk, isO_mk, rl_some, rl_none, true_and, and_true, true_or, or_true, wr_1, c154, b1, b4, h0]
  exact l45 H0 hc (by omega) U 0 1 _ hU
theorem mnT_at (U : Nat) (E : Nat → Nat → Int64) : ∀ (k c : Nat), c ≤ k → mnT U E k c = mnT U E c c := by
  intro k
  induction k with
  | zero =>
    intro c hc
    rw [show c = 0 by omega]
  | succ k ih =>
    intro c hc
    by_cases e : c = k + 1
    · rw [e]
    · show vp_updL (mnT U E k) (k + 1) _ c = _
      rw [pk_uLn e]
      exact ih c (by omega)
theorem l44 (hU : U = 4 ∨ U = 5) {q : Int32} {v2 : Value} : ∀ (k c : Nat) (w : xW) (M : Nat → Int64), c + k = 2 ^ U → 1 ≤ c → isS w v (nI U) det N S M V → (∀ j, j < c → M j = mnT U (enF q N S) j j) → (∀ w2 M2, fr w w2 v (v + 10) → isS w2 v (nI U) det N S M2 V → Q (some (.long (dtF U (enF q N S)))) w2) → Wp 44 b 16 [.ref v, .int q, .int (nI (2 ^ U)), .int (nI c)] [] w Q := by
  have hP : 2 ^ U ≤ 32 := by rcases hU with rfl | rfl <;> decide
  have hP1 : 1 ≤ 2 ^ U := by rcases hU with rfl | rfl <;> decide
  intro k
  induction k with
  | zero =>
    intro c w M hc1 h1c H e1 K
    have hc : nI (2 ^ U) ≤ nI c := nI_le (by omega) (by omega)
    have H0 := H
    obtain ⟨h0, ⟨f, h1, h2⟩, h3, h4, h5, h6⟩ := H
    have e : nI (2 ^ U) - 1 = nI (2 ^ U - 1) := pk_sub (b := 1) hP1
    have hx : x_pl (nI (2 ^ U - 1)) 32 := x_pl_nI (by omega) (by omega)
    have hcl : (nI (2 ^ U - 1)).toNatClampNeg = 2 ^ U - 1 := cl_nI (by omega)
    simp only [q44_16, q44_17, q44_18, q44_39, q44_40, q44_43, q44_44, q44_45, q44_46, q44_47, gF0, gF1, gF2, gF3, gF4, gF5, gF6, gF7, gF8, gF9, gF10, gF11, gF12, gF13, gF14, gF15, gF16, gF17, gF18, gF19, pF0, pF1, pF2, pF3, pF4, pF5, pF6, pF7, pF8, pF9, pF10, pF11, pF12, pF13, pF14, pF15, pF16, pF17, pF18, pF19, aI_mk, aL_mk, aA_mk, sI_mk, sL_mk, sA_mk, isO_mk, rl_some, rl_none, true_and, and_true, true_or, or_true, wr_1, if_pos hc, h0, h5, e, hx, hcl]
    rw [e1 (2 ^ U - 1) (by omega)]
    exact K w M fr.rf H0
  | succ k ih =>
    intro c w M hc1 h1c H e1 K
    have hc : ¬ nI (2 ^ U) ≤ nI c := by rw [nI_le' (by omega) (by omega)]; omega
    have H0 := H
    obtain ⟨h0, ⟨f, h1, h2⟩, h3, h4, h5, h6⟩ := H
    have hx : x_pl (nI c) 32 := x_pl_nI (by omega) (by omega)
    have hcl : (nI c).toNatClampNeg = c := cl_nI (by omega)
    simp only [q44_16]
    simp only [q44_17, q44_18, q44_21, q44_22, q44_25, q44_26, q44_27, q44_28, q44_29, q44_32, q44_33, q44_36, gF0, gF1, gF2, gF3, gF4, gF5, gF6, gF7, gF8, gF9, gF10, gF11, gF12, gF13, gF14, gF15, gF16, gF17, gF18, gF19, pF0, pF1, pF2, pF3, pF4, pF5, pF6, pF7, pF8, pF9, pF10, pF11, pF12, pF13, pF14, pF15, pF16, pF17, pF18, pF19, aI_mk, aL_mk, aA_mk, sI_mk, sL_mk, sA_mk, isO_mk, rl_some, rl_none, true_and, and_true, true_or, or_true, wr_1, if_neg hc, h0, h5, c45 H0 (show c < 32 by omega) (show c ≠ 0 by omega) (show U ≤ 5 by omega), hx, hcl, nI_1]
    have hf : fr w (wr w (v + 8) (.inl (1, 32, .inr (.inl (vp_updL M c (xpF (enF q N S (pcN c - 1)) M c U 0 1)))))) v (v + 10) := fr.wr (by omega) (by omega)
    refine ih (c + 1) _ _ (by omega) (by omega) H0.sM (fun j hj => ?_) (fun w2 M2 f2 => K w2 M2 (hf.tr f2))
    by_cases e : j = c
    · subst e
      rw [pk_uLs]
      obtain ⟨c', rfl⟩ : ∃ c', j = c' + 1 := ⟨j - 1, by omega⟩
      show _ = vp_updL (mnT U (enF q N S) c') (c' + 1) _ (c' + 1)
      rw [pk_uLs]
      refine xpF_congr U 0 1 (fun _ _ => rfl) (fun i hi hb => ?_)
      have hpos : 1 ≤ 2 ^ i := Nat.one_le_two_pow
      rw [e1 _ (by omega), mnT_at U _ c' _ (by omega)]
    · rw [pk_uLn e]
      exact e1 j (by omega)
theorem c44 (H : isS w v (nI U) det N S M V) (hU : U = 4 ∨ U = 5) {q : Int32} (K : ∀ w2 M2, fr w w2 v (v + 10) → isS w2 v (nI U) det N S M2 V → Q (some (.long (dtF U (enF q N S)))) w2) : Wp 44 b 0 [.ref v, .int q, x_no, x_no] [] w Q := by
  have H0 := H
  obtain ⟨h0, ⟨f, h1, h2⟩, h3, h4, h5, h6⟩ := H
  have e : (1 : Int32) <<< (nI U &&& 31) = nI (2 ^ U) := by rcases hU with rfl | rfl <;> decide
  have p0 : x_pl 0 32 := x_pl_nI (j := 0) (by omega) (by omega)
  have z0 : (0 : Int32).toNatClampNeg = 0 := by decide
  simp only [q44_0, q44_1, q44_2, q44_5, q44_6, q44_7, q44_8, q44_11, q44_12, q44_13, q44_14, q44_15, gF0, gF1, gF2, gF3, gF4, gF5, gF6, gF7, gF8, gF9, gF10, gF11, gF12, gF13, gF14, gF15, gF16, gF17, gF18, gF19, pF0, pF1, pF2, pF3, pF4, pF5, pF6, pF7, pF8, pF9, pF10, pF11, pF12, pF13, pF14, pF15, pF16, pF17, pF18, pF19, aI_mk, aL_mk, aA_mk, sI_mk, sL_mk, sA_mk, isO_mk, rl_some, rl_none, true_and, and_true, true_or, or_true, wr_1, h0, h5, e, p0, z0]
  have hf : fr w (wr w (v + 8) (.inl (1, 32, .inr (.inl (vp_updL M 0 1))))) v (v + 10) := fr.wr (by omega) (by omega)
  have hP1 : 1 ≤ 2 ^ U := by rcases hU with rfl | rfl <;> decide
  refine l44 (v2 := x_no) hU (2 ^ U - 1) 1 _ _ (by omega) (Nat.le_refl 1) H0.sM (fun j hj => ?_) (fun w2 M2 f2 => K w2 M2 (hf.tr f2))
  rw [show j = 0 by omega, pk_uLs]
  rfl
theorem lg0 {x : Int64} : lg_cmp x 0 = 0 ↔ x = 0 := by
  unfold lg_cmp
  by_cases h1 : x > 0
  · rw [if_pos h1]
    constructor
    · exact fun h => absurd h (by decide)
    · intro h
      subst h
      exact absurd h1 (by decide)
  · rw [if_neg h1]
    by_cases h2 : x = 0
    · simp [h2]
    · rw [if_neg h2]
      constructor
      · exact fun h => absurd h (by decide)
      · exact fun h => absurd h h2
theorem c42 (H : isS w v (nI U) det N S M V) (hU : U = 4 ∨ U = 5) (K : ∀ w2 M2, fr w w2 v (v + 10) → isS w2 v (nI U) det N S M2 V → Q (some (.int (bI (¬ dtF U (enF (-1) N S) = 0)))) w2) : Wp 42 b 0 [.ref v] [] w Q := by
  obtain ⟨h0, -⟩ := id H
  simp only [q42_0, q42_1, q42_2, gF0, gF1, gF2, gF3, gF4, gF5, gF6, gF7, gF8, gF9, gF10, gF11, gF12, gF13, gF14, gF15, gF16, gF17, gF18, gF19, pF0, pF1, pF2, pF3, pF4, pF5, pF6, pF7, pF8, pF9, pF10, pF11, pF12, pF13, pF14, pF15, pF16, pF17, pF18, pF19, aI_mk, aL_mk, aA_mk, sI_mk, sL_mk, sA_mk, isO_mk, rl_some, rl_none, true_and, and_true, true_or, or_true, wr_1, h0]
  refine c44 H hU (fun w2 M2 f2 H2 => ?_)
  have := K w2 M2 f2 H2
  simp only [q42_5, q42_6, q42_7, q42_10, q42_11, q42_14, q42_15, gF0, gF1, gF2, gF3, gF4, gF5, gF6, gF7, gF8, gF9, gF10, gF11, gF12, gF13, gF14, gF15, gF16, gF17, gF18, gF19, pF0, pF1, pF2, pF3, pF4, pF5, pF6, pF7, pF8, pF9, pF10, pF11, pF12, pF13, pF14, pF15, pF16, pF17, pF18, pF19, aI_mk, aL_mk, aA_mk, sI_mk, sL_mk, sA_mk, isO_mk, rl_some, rl_none, true_and, and_true, true_or, or_true, wr_1, lg0]
  by_cases c : dtF U (enF (-1) N S) = 0
  · rw [bI_f (by simpa using c)] at this
    simp only [c, if_true]
    exact this
  · rw [bI_t c] at this
    simp only [c, if_false]
    exact this
end SW
