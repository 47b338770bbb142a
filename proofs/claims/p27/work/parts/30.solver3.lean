theorem pc_le : ∀ c, c < 32 → pcN c ≤ 5 ∧ (c < 16 → pcN c ≤ 4) := by decide +kernel
theorem mnT_congr {U : Nat} (hU : U = 4 ∨ U = 5) {E E' : Nat → Nat → Int64} (h : ∀ r c, r < U → c < U → E r c = E' r c) : ∀ k j, k < 2 ^ U → mnT U E k j = mnT U E' k j := by
  intro k
  induction k with
  | zero => exact fun _ _ => rfl
  | succ k ih =>
    intro j hk
    show vp_updL (mnT U E k) (k + 1) (xpF (E (pcN (k + 1) - 1)) (mnT U E k) (k + 1) U 0 1) j = vp_updL (mnT U E' k) (k + 1) (xpF (E' (pcN (k + 1) - 1)) (mnT U E' k) (k + 1) U 0 1) j
    have hf : mnT U E k = mnT U E' k := funext fun i => ih i (by omega)
    have hp : pcN (k + 1) - 1 < U := by
      have h32 : k + 1 < 32 := by rcases hU with rfl | rfl <;> omega
      obtain ⟨p1, p2⟩ := pc_le (k + 1) h32
      rcases hU with rfl | rfl
      · have := p2 (by omega)
        omega
      · omega
    rw [hf]
    rw [xpF_congr U 0 1 (fun i hi => h _ i hp hi) (fun _ _ _ => rfl)]
theorem dtF_congr {U : Nat} (hU : U = 4 ∨ U = 5) {E E' : Nat → Nat → Int64} (h : ∀ r c, r < U → c < U → E r c = E' r c) : dtF U E = dtF U E' := mnT_congr hU h _ _ (by have : 1 ≤ 2 ^ U := Nat.one_le_two_pow; omega)
theorem enF_m1 {N : Nat → Nat → Int64} {S : Nat → Int64} {r c : Nat} (hc : c ≤ 1000) : enF (-1) N S r c = N r c := if_neg (nI_m1 hc)
theorem dtF_m1 {U : Nat} (hU : U = 4 ∨ U = 5) {N : Nat → Nat → Int64} {S : Nat → Int64} : dtF U (enF (-1) N S) = dtF U N := dtF_congr hU (fun r c _ hc => enF_m1 (by omega))
theorem sgF_or (lf rf : Nat → Int32) (r : Nat) (m : Int32) : sgF lf rf r m = -1 ∨ sgF lf rf r m = 0 ∨ sgF lf rf r m = 1 := by
  unfold sgF
  have h1 : ∀ x : Int32, x &&& 1 = 0 ∨ x &&& 1 = 1 := fun x => by
    obtain ⟨j, hj, e⟩ := pk_andE x (m := 1) 1 (by decide)
    rcases (show j = 0 ∨ j = 1 by omega) with rfl | rfl
    · exact Or.inl e
    · exact Or.inr e
  rcases h1 (lf r >>> (m &&& 31)) with a | a <;> rcases h1 (rf r >>> (m &&& 31)) with c | c <;> rw [a, c] <;> decide
theorem fcF_or (lf rf : Nat → Int32) (r : Nat) (i : Int32) : fcF lf rf r i = -1 ∨ fcF lf rf r i = 0 ∨ fcF lf rf r i = 1 := by
  unfold fcF
  by_cases h : i = 4
  · rw [if_pos h]
    exact Or.inr (Or.inr rfl)
  · rw [if_neg h]
    exact sgF_or lf rf r _
theorem x_wneg : ∀ t, t ≤ 6 → ∀ f ∈ ([-1, 0, 1] : List Int32), ∀ g ∈ ([-1, 0, 1] : List Int32), (f * g * (-nI t)).toInt64 + (f * g * nI t).toInt64 = 0 := by decide +kernel
theorem wN_neg {lf rf : Nat → Int32} {r t i j : Nat} (ht : t ≤ 6) : wN lf rf r (-nI t) i j + wN lf rf r (nI t) i j = 0 := by
  unfold wN
  refine x_wneg t ht _ ?_ _ ?_
  · rcases fcF_or lf rf r (nI i) with e | e | e <;> rw [e] <;> decide
  · rcases fcF_or lf rf r (nI j) with e | e | e <;> rw [e] <;> decide
section SX
variable {w : xW} {b o v : Nat} {s p l u : Int32} {n U : Nat} {lf rf tf mf : Nat → Int32} {det : Int64} {N : Nat → Nat → Int64} {S M V : Nat → Int64} {Q : Option Value → xW → Prop}
theorem l43 (hU : U = 4 ∨ U = 5) : ∀ (k i : Nat) (w : xW) (M V : Nat → Int64), i + k = U → isS w v (nI U) det N S M V → (∀ a, a < i → V a = dtF U (enF (nI a) N S)) → (∀ w2 M2 V2, fr w w2 v (v + 10) → isS w2 v (nI U) det N S M2 V2 → (∀ a, a < U → V2 a = dtF U (enF (nI a) N S)) → Q (some (.int 1)) w2) → Wp 43 b 22 [.ref v, .int (nI i)] [] w Q := by
  intro k
  induction k with
  | zero =>
    intro i w M V hi H e1 K
    have hc : nI U ≤ nI i := nI_le (by omega) (by omega)
    have H0 := H
    obtain ⟨h0, -⟩ := H
    simp only [q43_22, q43_23, q43_24, q43_27, q43_47, q43_48, gF0, gF1, gF2, gF3, gF4, gF5, gF6, gF7, gF8, gF9, gF10, gF11, gF12, gF13, gF14, gF15, gF16, gF17, gF18, gF19, pF0, pF1, pF2, pF3, pF4, pF5, pF6, pF7, pF8, pF9, pF10, pF11, pF12, pF13, pF14, pF15, pF16, pF17, pF18, pF19, aI_mk, aL_mk, aA_mk, sI_mk, sL_mk, sA_mk, isO_mk, rl_some, rl_none, true_and, and_true, true_or, or_true, wr_1, h0, if_pos hc]
    have e : i = U := by omega
    subst e
    exact K w M V fr.rf H0 e1
  | succ k ih =>
    intro i w M V hi H e1 K
    have hc : ¬ nI U ≤ nI i := by rw [nI_le' (by omega) (by omega)]; omega
    have H0 := H
    obtain ⟨h0, -⟩ := H
    have hx : x_pl (nI i) 5 := x_pl_nI (by omega) (by omega)
    have hcl : (nI i).toNatClampNeg = i := cl_nI (by omega)
    simp only [q43_22]
    simp only [q43_23, q43_24, q43_27, q43_30, q43_31, q43_34, q43_35, q43_36, q43_37, gF0, gF1, gF2, gF3, gF4, gF5, gF6, gF7, gF8, gF9, gF10, gF11, gF12, gF13, gF14, gF15, gF16, gF17, gF18, gF19, pF0, pF1, pF2, pF3, pF4, pF5, pF6, pF7, pF8, pF9, pF10, pF11, pF12, pF13, pF14, pF15, pF16, pF17, pF18, pF19, aI_mk, aL_mk, aA_mk, sI_mk, sL_mk, sA_mk, isO_mk, rl_some, rl_none, true_and, and_true, true_or, or_true, wr_1, h0, if_neg hc]
    refine c44 H0 hU (fun w2 M2 f2 H2 => ?_)
    have H20 := H2
    obtain ⟨g0, -, -, -, -, g5⟩ := H2
    simp only [q43_40, q43_41, q43_44, gF0, gF1, gF2, gF3, gF4, gF5, gF6, gF7, gF8, gF9, gF10, gF11, gF12, gF13, gF14, gF15, gF16, gF17, gF18, gF19, pF0, pF1, pF2, pF3, pF4, pF5, pF6, pF7, pF8, pF9, pF10, pF11, pF12, pF13, pF14, pF15, pF16, pF17, pF18, pF19, aI_mk, aL_mk, aA_mk, sI_mk, sL_mk, sA_mk, isO_mk, rl_some, rl_none, true_and, and_true, true_or, or_true, wr_1, g5, hx, hcl, nI_1]
    have hf : fr w2 (wr w2 (v + 9) (.inl (1, 5, .inr (.inl (vp_updL V i (dtF U (enF (nI i) N S))))))) v (v + 10) := fr.wr (by omega) (by omega)
    refine ih (i + 1) _ _ _ (by omega) H20.sV (fun a ha => ?_) (fun w3 M3 V3 f3 => K w3 M3 V3 ((f2.tr hf).tr f3))
    by_cases e : a = i
    · rw [e, pk_uLs]
    · rw [pk_uLn e]
      exact e1 a (by omega)
theorem c43 (H : isS w v (nI U) det N S M V) (hU : U = 4 ∨ U = 5) (K : ∀ w2 M2 V2, fr w w2 v (v + 10) → isS w2 v (nI U) (dtF U N) N S M2 V2 → (¬ dtF U N = 0 → ∀ a, a < U → V2 a = dtF U (enF (nI a) N S)) → Q (some (.int (bI (¬ dtF U N = 0)))) w2) : Wp 43 b 0 [.ref v, x_no] [] w Q := by
  have H0 := H
  obtain ⟨h0, -⟩ := H
  simp only [q43_0, q43_1, q43_2, q43_3, gF0, gF1, gF2, gF3, gF4, gF5, gF6, gF7, gF8, gF9, gF10, gF11, gF12, gF13, gF14, gF15, gF16, gF17, gF18, gF19, pF0, pF1, pF2, pF3, pF4, pF5, pF6, pF7, pF8, pF9, pF10, pF11, pF12, pF13, pF14, pF15, pF16, pF17, pF18, pF19, aI_mk, aL_mk, aA_mk, sI_mk, sL_mk, sA_mk, isO_mk, rl_some, rl_none, true_and, and_true, true_or, or_true, wr_1, h0]
  refine c44 H0 hU (fun w2 M2 f2 H2 => ?_)
  rw [dtF_m1 hU]
  have H20 := H2
  obtain ⟨g0, -⟩ := H2
  have hf : fr w2 (wr w2 v (.inr (2, [.ref (v + 1), .ref (v + 7), .ref (v + 8), .ref (v + 9), .int (nI U), .long (dtF U N)]))) v (v + 10) := fr.wr (by omega) (by omega)
  simp only [q43_6, q43_9, q43_10, q43_13, q43_14, q43_15, gF0, gF1, gF2, gF3, gF4, gF5, gF6, gF7, gF8, gF9, gF10, gF11, gF12, gF13, gF14, gF15, gF16, gF17, gF18, gF19, pF0, pF1, pF2, pF3, pF4, pF5, pF6, pF7, pF8, pF9, pF10, pF11, pF12, pF13, pF14, pF15, pF16, pF17, pF18, pF19, aI_mk, aL_mk, aA_mk, sI_mk, sL_mk, sA_mk, isO_mk, rl_some, rl_none, true_and, and_true, true_or, or_true, wr_1, g0, rd_s, lg0]
  by_cases c : dtF U N = 0
  · have := K _ M2 V (f2.tr hf) H20.s0 (fun q => absurd c q)
    rw [bI_f (by simpa using c)] at this
    simp only [c, not_true, if_false]
    simp only [q43_18, q43_19, gF0, gF1, gF2, gF3, gF4, gF5, gF6, gF7, gF8, gF9, gF10, gF11, gF12, gF13, gF14, gF15, gF16, gF17, gF18, gF19, pF0, pF1, pF2, pF3, pF4, pF5, pF6, pF7, pF8, pF9, pF10, pF11, pF12, pF13, pF14, pF15, pF16, pF17, pF18, pF19, aI_mk, aL_mk, aA_mk, sI_mk, sL_mk, sA_mk, isO_mk, rl_some, rl_none, true_and, and_true, true_or, or_true, wr_1]
    rw [c] at this
    exact this
  · simp only [c, not_false_eq_true, if_true]
    simp only [q43_20, q43_21, gF0, gF1, gF2, gF3, gF4, gF5, gF6, gF7, gF8, gF9, gF10, gF11, gF12, gF13, gF14, gF15, gF16, gF17, gF18, gF19, pF0, pF1, pF2, pF3, pF4, pF5, pF6, pF7, pF8, pF9, pF10, pF11, pF12, pF13, pF14, pF15, pF16, pF17, pF18, pF19, aI_mk, aL_mk, aA_mk, sI_mk, sL_mk, sA_mk, isO_mk, rl_some, rl_none, true_and, and_true, true_or, or_true, wr_1]
    refine l43 (det := dtF U N) hU U 0 _ M2 V (by omega) H20.s0 (fun a ha => absurd ha (Nat.not_lt_zero _)) (fun w3 M3 V3 f3 H3 e3 => ?_)
    have := K w3 M3 V3 ((f2.tr hf).tr f3) H3 (fun _ => e3)
    rw [bI_t c] at this
    exact this
theorem c31 (D : isD w o s p l n lf rf tf mf) (H : isS w v u det N S M V) (hT : vT n tf) (hp : isU p U) (hs : o + 5 ≤ v ∨ v + 10 ≤ o) (K : ∀ w2 N2 S2 M2, fr w w2 v (v + 10) → isS w2 v (nI U) det N2 S2 M2 V → (∀ a c, a < U → c < U → N2 a c = gN n lf rf tf a c) → Q (some (.int (bI (¬ dtF U (gN n lf rf tf) = 0)))) w2) : Wp 31 b 0 [.ref v, .ref o] [] w Q := by
  obtain ⟨h0, -⟩ := id H
  simp only [q31_0, q31_1, q31_2, gF0, gF1, gF2, gF3, gF4, gF5, gF6, gF7, gF8, gF9, gF10, gF11, gF12, gF13, gF14, gF15, gF16, gF17, gF18, gF19, pF0, pF1, pF2, pF3, pF4, pF5, pF6, pF7, pF8, pF9, pF10, pF11, pF12, pF13, pF14, pF15, pF16, pF17, pF18, pF19, aI_mk, aL_mk, aA_mk, sI_mk, sL_mk, sA_mk, isO_mk, rl_some, rl_none, true_and, and_true, true_or, or_true, wr_1, h0]
  refine c39 D H hT hp hs (fun w2 N2 S2 f2 H2 e1 _ => ?_)
  obtain ⟨g0, -⟩ := id H2
  simp only [q31_5, q31_6, gF0, gF1, gF2, gF3, gF4, gF5, gF6, gF7, gF8, gF9, gF10, gF11, gF12, gF13, gF14, gF15, gF16, gF17, gF18, gF19, pF0, pF1, pF2, pF3, pF4, pF5, pF6, pF7, pF8, pF9, pF10, pF11, pF12, pF13, pF14, pF15, pF16, pF17, pF18, pF19, aI_mk, aL_mk, aA_mk, sI_mk, sL_mk, sA_mk, isO_mk, rl_some, rl_none, true_and, and_true, true_or, or_true, wr_1, g0]
  refine c42 H2 hp.2 (fun w3 M3 f3 H3 => ?_)
  simp only [q31_9, gF0, gF1, gF2, gF3, gF4, gF5, gF6, gF7, gF8, gF9, gF10, gF11, gF12, gF13, gF14, gF15, gF16, gF17, gF18, gF19, pF0, pF1, pF2, pF3, pF4, pF5, pF6, pF7, pF8, pF9, pF10, pF11, pF12, pF13, pF14, pF15, pF16, pF17, pF18, pF19, aI_mk, aL_mk, aA_mk, sI_mk, sL_mk, sA_mk, isO_mk, rl_some, rl_none, true_and, and_true, true_or, or_true, wr_1, bI_01]
  rw [dtF_m1 hp.2, dtF_congr hp.2 e1]
  exact K w3 N2 S2 M3 (f2.tr f3) H3 e1
theorem c34 (D : isD w o s p l n lf rf tf mf) (H : isS w v u det N S M V) (hT : vT n tf) (hp : isU p U) (hs : o + 5 ≤ v ∨ v + 10 ≤ o) (K : ∀ w2 N2 S2 M2 V2, fr w w2 v (v + 10) → isS w2 v (nI U) (dtF U (gN n lf rf tf)) N2 S2 M2 V2 → (¬ dtF U (gN n lf rf tf) = 0 → ∀ a, a < U → V2 a = dtF U (enF (nI a) (gN n lf rf tf) (gS n s lf rf tf mf))) → Q (some (.int (bI (¬ dtF U (gN n lf rf tf) = 0)))) w2) : Wp 34 b 0 [.ref v, .ref o] [] w Q := by
  obtain ⟨h0, -⟩ := id H
  simp only [q34_0, q34_1, q34_2, gF0, gF1, gF2, gF3, gF4, gF5, gF6, gF7, gF8, gF9, gF10, gF11, gF12, gF13, gF14, gF15, gF16, gF17, gF18, gF19, pF0, pF1, pF2, pF3, pF4, pF5, pF6, pF7, pF8, pF9, pF10, pF11, pF12, pF13, pF14, pF15, pF16, pF17, pF18, pF19, aI_mk, aL_mk, aA_mk, sI_mk, sL_mk, sA_mk, isO_mk, rl_some, rl_none, true_and, and_true, true_or, or_true, wr_1, h0]
  refine c39 D H hT hp hs (fun w2 N2 S2 f2 H2 e1 e2 => ?_)
  obtain ⟨g0, -⟩ := id H2
  simp only [q34_5, q34_6, gF0, gF1, gF2, gF3, gF4, gF5, gF6, gF7, gF8, gF9, gF10, gF11, gF12, gF13, gF14, gF15, gF16, gF17, gF18, gF19, pF0, pF1, pF2, pF3, pF4, pF5, pF6, pF7, pF8, pF9, pF10, pF11, pF12, pF13, pF14, pF15, pF16, pF17, pF18, pF19, aI_mk, aL_mk, aA_mk, sI_mk, sL_mk, sA_mk, isO_mk, rl_some, rl_none, true_and, and_true, true_or, or_true, wr_1, g0]
  refine c43 H2 hp.2 (fun w3 M3 V3 f3 H3 e3 => ?_)
  simp only [q34_9, gF0, gF1, gF2, gF3, gF4, gF5, gF6, gF7, gF8, gF9, gF10, gF11, gF12, gF13, gF14, gF15, gF16, gF17, gF18, gF19, pF0, pF1, pF2, pF3, pF4, pF5, pF6, pF7, pF8, pF9, pF10, pF11, pF12, pF13, pF14, pF15, pF16, pF17, pF18, pF19, aI_mk, aL_mk, aA_mk, sI_mk, sL_mk, sA_mk, isO_mk, rl_some, rl_none, true_and, and_true, true_or, or_true, wr_1, bI_01]
  rw [dtF_congr hp.2 e1] at H3 e3 ⊢
  refine K w3 N2 S2 M3 V3 (f2.tr f3) H3 (fun q a ha => (e3 q a ha).trans (dtF_congr hp.2 (fun r c hr hc => ?_)))
  unfold enF
  by_cases h : nI c = nI a
  · rw [if_pos h, if_pos h, e2 r hr]
  · rw [if_neg h, if_neg h, e1 r c hr hc]
/-- a design's equations without its row r -/
def gNx (n : Nat) (lf rf tf : Nat → Int32) (r i j : Nat) : Int64 := gN n lf rf tf i j + wN lf rf r (-tf r) i j
theorem c41 (D : isD w o s p l n lf rf tf mf) (H : isS w v (nI U) det N S M V) (hT : vT n tf) (hU : U = 4 ∨ U = 5) (hs : o + 5 ≤ v ∨ v + 10 ≤ o) (hN : ∀ a c, a < U → c < U → N a c = gN n lf rf tf a c) {r : Nat} (hr : r < n) (K : ∀ w2 N2 S2 M2, fr w w2 v (v + 10) → isS w2 v (nI U) det N2 S2 M2 V → (∀ a c, a < U → c < U → N2 a c = gN n lf rf tf a c) → Q (some (.int (bI (dtF U (gNx n lf rf tf r) = 0)))) w2) : Wp 41 b 0 [.ref v, .ref o, .int (nI r), x_no, x_no, x_no] [] w Q := by
  obtain ⟨hn, hT⟩ := hT
  obtain ⟨t1, t2⟩ := hT r hr
  have D0 := D
  obtain ⟨d0, d1, d2, d3, d4⟩ := D
  obtain ⟨h0, -⟩ := id H
  have hx : x_pl (nI r) 12 := x_pl_nI (by omega) (by omega)
  have hcl : (nI r).toNatClampNeg = r := cl_nI (by omega)
  simp only [q41_0, q41_1, q41_4, q41_5, q41_6, q41_7, q41_8, q41_9, q41_12, q41_14, q41_15, q41_16, q41_17, q41_18, q41_19, q41_21, q41_22, gF0, gF1, gF2, gF3, gF4, gF5, gF6, gF7, gF8, gF9, gF10, gF11, gF12, gF13, gF14, gF15, gF16, gF17, gF18, gF19, pF0, pF1, pF2, pF3, pF4, pF5, pF6, pF7, pF8, pF9, pF10, pF11, pF12, pF13, pF14, pF15, pF16, pF17, pF18, pF19, aI_mk, aL_mk, aA_mk, sI_mk, sL_mk, sA_mk, isO_mk, rl_some, rl_none, true_and, and_true, true_or, or_true, wr_1, d0, d3, h0, hx, hcl, c14 D0 (show r < 12 by omega) t1 t2]
  refine c40 D0 H (by omega) (by omega) hs (fun w2 N2 S2 f2 H2 k1 _ => ?_)
  obtain ⟨g0, -⟩ := id H2
  simp only [q41_25, q41_26, gF0, gF1, gF2, gF3, gF4, gF5, gF6, gF7, gF8, gF9, gF10, gF11, gF12, gF13, gF14, gF15, gF16, gF17, gF18, gF19, pF0, pF1, pF2, pF3, pF4, pF5, pF6, pF7, pF8, pF9, pF10, pF11, pF12, pF13, pF14, pF15, pF16, pF17, pF18, pF19, aI_mk, aL_mk, aA_mk, sI_mk, sL_mk, sA_mk, isO_mk, rl_some, rl_none, true_and, and_true, true_or, or_true, wr_1, g0]
  refine c42 H2 hU (fun w3 M3 f3 H3 => ?_)
  obtain ⟨g0, -⟩ := id H3
  have D3 := (D0.fr f2 (by omega)).fr f3 (by omega)
  have e1 : dtF U (enF (-1) N2 S2) = dtF U (gNx n lf rf tf r) := by
    rw [dtF_m1 hU]
    refine dtF_congr hU (fun a c ha hc => ?_)
    rw [k1 a c ha hc, hN a c ha hc]
    rfl
  rw [e1]
  have fin : ∀ x5 : Int32, (x5 = bI (dtF U (gNx n lf rf tf r) = 0)) → Wp 41 b 39 [.ref v, .ref o, .int (nI r), .int (tf r), .int (smF mf (tkF tf r) r), .int x5] [] w3 Q := by
    intro x5 hx5
    simp only [q41_39, q41_40, q41_41, q41_42, q41_43, q41_45, gF0, gF1, gF2, gF3, gF4, gF5, gF6, gF7, gF8, gF9, gF10, gF11, gF12, gF13, gF14, gF15, gF16, gF17, gF18, gF19, pF0, pF1, pF2, pF3, pF4, pF5, pF6, pF7, pF8, pF9, pF10, pF11, pF12, pF13, pF14, pF15, pF16, pF17, pF18, pF19, aI_mk, aL_mk, aA_mk, sI_mk, sL_mk, sA_mk, isO_mk, rl_some, rl_none, true_and, and_true, true_or, or_true, wr_1, g0]
    refine c40 D3 H3 (by omega) (by omega) hs (fun w4 N4 S4 f4 H4 k3 _ => ?_)
    simp only [q41_48, q41_50, gF0, gF1, gF2, gF3, gF4, gF5, gF6, gF7, gF8, gF9, gF10, gF11, gF12, gF13, gF14, gF15, gF16, gF17, gF18, gF19, pF0, pF1, pF2, pF3, pF4, pF5, pF6, pF7, pF8, pF9, pF10, pF11, pF12, pF13, pF14, pF15, pF16, pF17, pF18, pF19, aI_mk, aL_mk, aA_mk, sI_mk, sL_mk, sA_mk, isO_mk, rl_some, rl_none, true_and, and_true, true_or, or_true, wr_1, hx5, bI_01]
    refine K w4 N4 S4 M3 ((f2.tr f3).tr f4) H4 (fun a c ha hc => ?_)
    rw [k3 a c ha hc, k1 a c ha hc, hN a c ha hc, Int64.add_assoc, t1, wN_neg t2, Int64.add_zero]
  simp only [q41_29, q41_32, q41_33, q41_36, q41_37, gF0, gF1, gF2, gF3, gF4, gF5, gF6, gF7, gF8, gF9, gF10, gF11, gF12, gF13, gF14, gF15, gF16, gF17, gF18, gF19, pF0, pF1, pF2, pF3, pF4, pF5, pF6, pF7, pF8, pF9, pF10, pF11, pF12, pF13, pF14, pF15, pF16, pF17, pF18, pF19, aI_mk, aL_mk, aA_mk, sI_mk, sL_mk, sA_mk, isO_mk, rl_some, rl_none, true_and, and_true, true_or, or_true, wr_1, bI_n]
  by_cases c : dtF U (gNx n lf rf tf r) = 0
  · simp only [c, not_true, if_false]
    exact fin 1 (by rw [bI_t c])
  · simp only [c, not_false_eq_true, if_true]
    exact fin 0 (by rw [bI_f c])
theorem c32 (D : isD w o s p l n lf rf tf mf) (H : isS w v u det N S M V) (hT : vT n tf) (hp : isU p U) (hs : o + 5 ≤ v ∨ v + 10 ≤ o) {r : Nat} (hr : r < n) (K : ∀ w2 N2 S2 M2, fr w w2 v (v + 10) → isS w2 v (nI U) det N2 S2 M2 V → Q (some (.int (bI (¬ dtF U (gN n lf rf tf) = 0 ∧ dtF U (gNx n lf rf tf r) = 0)))) w2) : Wp 32 b 0 [.ref v, .ref o, .int (nI r)] [] w Q := by
  obtain ⟨h0, -⟩ := id H
  simp only [q32_0, q32_1, q32_2, gF0, gF1, gF2, gF3, gF4, gF5, gF6, gF7, gF8, gF9, gF10, gF11, gF12, gF13, gF14, gF15, gF16, gF17, gF18, gF19, pF0, pF1, pF2, pF3, pF4, pF5, pF6, pF7, pF8, pF9, pF10, pF11, pF12, pF13, pF14, pF15, pF16, pF17, pF18, pF19, aI_mk, aL_mk, aA_mk, sI_mk, sL_mk, sA_mk, isO_mk, rl_some, rl_none, true_and, and_true, true_or, or_true, wr_1, h0]
  refine c31 D H hT hp hs (fun w2 N2 S2 M2 f2 H2 e1 => ?_)
  obtain ⟨g0, -⟩ := id H2
  simp only [q32_5, q32_8, q32_9, q32_10, q32_11, gF0, gF1, gF2, gF3, gF4, gF5, gF6, gF7, gF8, gF9, gF10, gF11, gF12, gF13, gF14, gF15, gF16, gF17, gF18, gF19, pF0, pF1, pF2, pF3, pF4, pF5, pF6, pF7, pF8, pF9, pF10, pF11, pF12, pF13, pF14, pF15, pF16, pF17, pF18, pF19, aI_mk, aL_mk, aA_mk, sI_mk, sL_mk, sA_mk, isO_mk, rl_some, rl_none, true_and, and_true, true_or, or_true, wr_1, g0, bI_0]
  by_cases c : dtF U (gN n lf rf tf) = 0
  · have := K w2 N2 S2 M2 f2 H2
    rw [bI_f (fun q => q.1 c)] at this
    simp only [c, not_true, not_false_eq_true, if_true]
    simp only [q32_21, q32_22, gF0, gF1, gF2, gF3, gF4, gF5, gF6, gF7, gF8, gF9, gF10, gF11, gF12, gF13, gF14, gF15, gF16, gF17, gF18, gF19, pF0, pF1, pF2, pF3, pF4, pF5, pF6, pF7, pF8, pF9, pF10, pF11, pF12, pF13, pF14, pF15, pF16, pF17, pF18, pF19, aI_mk, aL_mk, aA_mk, sI_mk, sL_mk, sA_mk, isO_mk, rl_some, rl_none, true_and, and_true, true_or, or_true, wr_1]
    exact this
  · simp only [c, not_false_eq_true, not_true, if_false]
    refine c41 (D.fr f2 (by omega)) H2 hT hp.2 hs e1 hr (fun w3 N3 S3 M3 f3 H3 e3 => ?_)
    have := K w3 N3 S3 M3 (f2.tr f3) H3
    simp only [q32_14, q32_17, q32_18, q32_21, q32_22, gF0, gF1, gF2, gF3, gF4, gF5, gF6, gF7, gF8, gF9, gF10, gF11, gF12, gF13, gF14, gF15, gF16, gF17, gF18, gF19, pF0, pF1, pF2, pF3, pF4, pF5, pF6, pF7, pF8, pF9, pF10, pF11, pF12, pF13, pF14, pF15, pF16, pF17, pF18, pF19, aI_mk, aL_mk, aA_mk, sI_mk, sL_mk, sA_mk, isO_mk, rl_some, rl_none, true_and, and_true, true_or, or_true, wr_1, bI_0]
    by_cases c2 : dtF U (gNx n lf rf tf r) = 0
    · rw [bI_t ⟨c, c2⟩] at this
      simp only [c2, not_true, if_false]
      exact this
    · rw [bI_f (fun q => c2 q.2)] at this
      simp only [c2, not_false_eq_true, if_true]
      exact this
theorem l33 (hT : vT n tf) (hU : U = 4 ∨ U = 5) (hs : o + 5 ≤ v ∨ v + 10 ≤ o) : ∀ (k i : Nat) (w : xW) (a : Int32) (N : Nat → Nat → Int64) (S M : Nat → Int64), i + k = n → isD w o s p l n lf rf tf mf → isS w v (nI U) det N S M V → (∀ a c, a < U → c < U → N a c = gN n lf rf tf a c) → (∀ w2 N2 S2 M2, fr w w2 v (v + 10) → isS w2 v (nI U) det N2 S2 M2 V → Q (some (.int (foldN (fun a j => if dtF U (gNx n lf rf tf j) = 0 then a + 1 else a) k i a))) w2) → Wp 33 b 14 [.ref v, .ref o, .int a, .int (nI i)] [] w Q := by
  have hn := hT.1
  intro k
  induction k with
  | zero =>
    intro i w a N S M hi D H e1 K
    have hc : nI n ≤ nI i := nI_le (by omega) (by omega)
    obtain ⟨d0, -⟩ := D
    simp only [q33_14, q33_15, q33_16, q33_19, q33_40, q33_41, gF0, gF1, gF2, gF3, gF4, gF5, gF6, gF7, gF8, gF9, gF10, gF11, gF12, gF13, gF14, gF15, gF16, gF17, gF18, gF19, pF0, pF1, pF2, pF3, pF4, pF5, pF6, pF7, pF8, pF9, pF10, pF11, pF12, pF13, pF14, pF15, pF16, pF17, pF18, pF19, aI_mk, aL_mk, aA_mk, sI_mk, sL_mk, sA_mk, isO_mk, rl_some, rl_none, true_and, and_true, true_or, or_true, wr_1, d0, if_pos hc]
    exact K w N S M fr.rf H
  | succ k ih =>
    intro i w a N S M hi D H e1 K
    have hc : ¬ nI n ≤ nI i := by rw [nI_le' (by omega) (by omega)]; omega
    obtain ⟨d0, -⟩ := id D
    obtain ⟨h0, -⟩ := id H
    simp only [q33_14]
    simp only [q33_15, q33_16, q33_19, q33_22, q33_23, q33_24, q33_25, gF0, gF1, gF2, gF3, gF4, gF5, gF6, gF7, gF8, gF9, gF10, gF11, gF12, gF13, gF14, gF15, gF16, gF17, gF18, gF19, pF0, pF1, pF2, pF3, pF4, pF5, pF6, pF7, pF8, pF9, pF10, pF11, pF12, pF13, pF14, pF15, pF16, pF17, pF18, pF19, aI_mk, aL_mk, aA_mk, sI_mk, sL_mk, sA_mk, isO_mk, rl_some, rl_none, true_and, and_true, true_or, or_true, wr_1, d0, h0, if_neg hc]
    refine c41 D H hT hU hs e1 (show i < n by omega) (fun w2 N2 S2 M2 f2 H2 e2 => ?_)
    simp only [q33_28, q33_31, q33_34, q33_37, gF0, gF1, gF2, gF3, gF4, gF5, gF6, gF7, gF8, gF9, gF10, gF11, gF12, gF13, gF14, gF15, gF16, gF17, gF18, gF19, pF0, pF1, pF2, pF3, pF4, pF5, pF6, pF7, pF8, pF9, pF10, pF11, pF12, pF13, pF14, pF15, pF16, pF17, pF18, pF19, aI_mk, aL_mk, aA_mk, sI_mk, sL_mk, sA_mk, isO_mk, rl_some, rl_none, true_and, and_true, true_or, or_true, wr_1, bI_0, nI_1]
    have D2 := D.fr f2 (by omega)
    have K' : ∀ x, x = (if dtF U (gNx n lf rf tf i) = 0 then a + 1 else a) → Wp 33 b 14 [.ref v, .ref o, .int x, .int (nI (i + 1))] [] w2 Q := fun x hx => ih (i + 1) w2 x N2 S2 M2 (by omega) D2 H2 e2 (fun w3 N3 S3 M3 f3 H3 => by
      have := K w3 N3 S3 M3 (f2.tr f3) H3
      rw [hx]
      exact this)
    by_cases c : dtF U (gNx n lf rf tf i) = 0
    · simp only [c, not_true, if_false]
      exact K' _ (by rw [if_pos c])
    · simp only [c, not_false_eq_true, if_true]
      exact K' _ (by rw [if_neg c])
theorem c33 (D : isD w o s p l n lf rf tf mf) (H : isS w v u det N S M V) (hT : vT n tf) (hp : isU p U) (hs : o + 5 ≤ v ∨ v + 10 ≤ o) (K : ∀ w2 N2 S2 M2, fr w w2 v (v + 10) → isS w2 v (nI U) det N2 S2 M2 V → Q (some (.int (if dtF U (gN n lf rf tf) = 0 then 0 else foldN (fun a j => if dtF U (gNx n lf rf tf j) = 0 then a + 1 else a) n 0 0))) w2) : Wp 33 b 0 [.ref v, .ref o, x_no, x_no] [] w Q := by
  obtain ⟨h0, -⟩ := id H
  simp only [q33_0, q33_1, q33_2, gF0, gF1, gF2, gF3, gF4, gF5, gF6, gF7, gF8, gF9, gF10, gF11, gF12, gF13, gF14, gF15, gF16, gF17, gF18, gF19, pF0, pF1, pF2, pF3, pF4, pF5, pF6, pF7, pF8, pF9, pF10, pF11, pF12, pF13, pF14, pF15, pF16, pF17, pF18, pF19, aI_mk, aL_mk, aA_mk, sI_mk, sL_mk, sA_mk, isO_mk, rl_some, rl_none, true_and, and_true, true_or, or_true, wr_1, h0]
  refine c31 D H hT hp hs (fun w2 N2 S2 M2 f2 H2 e1 => ?_)
  simp only [q33_5, gF0, gF1, gF2, gF3, gF4, gF5, gF6, gF7, gF8, gF9, gF10, gF11, gF12, gF13, gF14, gF15, gF16, gF17, gF18, gF19, pF0, pF1, pF2, pF3, pF4, pF5, pF6, pF7, pF8, pF9, pF10, pF11, pF12, pF13, pF14, pF15, pF16, pF17, pF18, pF19, aI_mk, aL_mk, aA_mk, sI_mk, sL_mk, sA_mk, isO_mk, rl_some, rl_none, true_and, and_true, true_or, or_true, wr_1, bI_0]
  by_cases c : dtF U (gN n lf rf tf) = 0
  · have := K w2 N2 S2 M2 f2 H2
    rw [if_pos c] at this
    simp only [c, not_true, not_false_eq_true, if_false]
    simp only [q33_8, q33_9, gF0, gF1, gF2, gF3, gF4, gF5, gF6, gF7, gF8, gF9, gF10, gF11, gF12, gF13, gF14, gF15, gF16, gF17, gF18, gF19, pF0, pF1, pF2, pF3, pF4, pF5, pF6, pF7, pF8, pF9, pF10, pF11, pF12, pF13, pF14, pF15, pF16, pF17, pF18, pF19, aI_mk, aL_mk, aA_mk, sI_mk, sL_mk, sA_mk, isO_mk, rl_some, rl_none, true_and, and_true, true_or, or_true, wr_1]
    exact this
  · simp only [c, not_false_eq_true, not_true, if_true]
    simp only [q33_10, q33_11, q33_12, q33_13, gF0, gF1, gF2, gF3, gF4, gF5, gF6, gF7, gF8, gF9, gF10, gF11, gF12, gF13, gF14, gF15, gF16, gF17, gF18, gF19, pF0, pF1, pF2, pF3, pF4, pF5, pF6, pF7, pF8, pF9, pF10, pF11, pF12, pF13, pF14, pF15, pF16, pF17, pF18, pF19, aI_mk, aL_mk, aA_mk, sI_mk, sL_mk, sA_mk, isO_mk, rl_some, rl_none, true_and, and_true, true_or, or_true, wr_1]
    refine l33 hT hp.2 hs n 0 w2 0 N2 S2 M2 (by omega) (D.fr f2 (by omega)) H2 e1 (fun w3 N3 S3 M3 f3 H3 => ?_)
    have := K w3 N3 S3 M3 (f2.tr f3) H3
    rw [if_neg c] at this
    exact this
end SX
