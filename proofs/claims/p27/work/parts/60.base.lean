/-! Words and rows that the class' face needs -/
def isX (w : xW) (t : Nat) (cf : Nat → Int32) (len : Nat) (l r a nx : Int32) : Prop := rd w t = .inr (3, [.ref (t + 1), .int (nI len), .int l, .int r, .int a, .int nx]) ∧ rd w (t + 1) = .inl (2, 80, .inl cf)
theorem isX.fr {w w' : xW} {t len lo hi : Nat} {cf : Nat → Int32} {l r a nx : Int32} (D : isX w t cf len l r a nx) (f : fr w w' lo hi) (ho : t + 2 ≤ lo ∨ hi ≤ t) : isX w' t cf len l r a nx := ⟨(f.2.2 _ (by omega)).trans D.1, (f.2.2 _ (by omega)).trans D.2⟩
def vX (cf : Nat → Int32) (len : Nat) : Prop := len ≤ 80 ∧ ∀ j, j < len → vp_nar .char (cf j) = cf j
def isR (w : xW) (tr e p : Nat) (rs : Int32) : Prop := rd w tr = .inr (4, [.ref (tr + 1), .int (nI e), .int (nI p), .int rs])
theorem bI_congr {c d : Prop} [Decidable c] [Decidable d] (h : c ↔ d) : bI c = bI d := by
  unfold bI
  by_cases e : c
  · rw [if_pos e, if_pos (h.mp e)]
  · rw [if_neg e, if_neg (fun q => e (h.mpr q))]
section C84
variable {w : xW} {b : Nat} {Q : Option Value → xW → Prop}
theorem c84 {x : Int32} : Wp 84 b 0 [.int x] [] w Q ↔ Q (some (.int (bI (-100000 ≤ x ∧ x ≤ 100000)))) w := by
  simp only [q84_0, q84_1, q84_3, q84_6, q84_7, q84_9, q84_12, q84_13, q84_16, q84_17, gF0, gF1, gF2, gF3, gF4, gF5, gF6, gF7, gF8, gF9, gF10, gF11, gF12, gF13, gF14, gF15, gF16, gF17, gF18, gF19, pF0, pF1, pF2, pF3, pF4, pF5, pF6, pF7, pF8, pF9, pF10, pF11, pF12, pF13, pF14, pF15, pF16, pF17, pF18, pF19, aI_mk, aL_mk, aA_mk, sI_mk, sL_mk, sA_mk, isO_mk, rl_some, rl_none, true_and, and_true, true_or, or_true, wr_1]
  unfold bI
  by_cases c1 : x < -100000
  · simp [c1, Int32.not_le.mpr c1]
  · by_cases c2 : 100000 < x
    · simp [c1, c2, Int32.not_le.mpr c2]
    · simp [c1, c2, Int32.not_lt.mp c1, Int32.not_lt.mp c2]
end C84
def nfF (x : Int32) : Int32 := if x = -1 then -2000000004 else x
abbrev okA (x y : Int32) : Prop := (1 ≤ x ∧ x ≤ 31) ∧ (1 ≤ y ∧ y ≤ 31) ∧ x &&& y = 0
def okS (s x : Int32) : Prop := (s = 0 ∧ -100000 ≤ x ∧ x ≤ 100000) ∨ (s = 1 ∧ 0 ≤ x ∧ x ≤ 1) ∨ (s = 2 ∧ 0 ≤ x ∧ x ≤ 100000)
abbrev prt (t : Int32) (x d : Int64) : Int64 := if t = 0 then x / cdF d x else d / cdF d x
def vR (n : Nat) (tf mf : Nat → Int32) : Prop := ∀ i, i < n → ∀ j, j < tkF tf i → -100000 ≤ (mf (6 * i + j)).toInt ∧ (mf (6 * i + j)).toInt ≤ 100000
def vS (n : Nat) (lf rf : Nat → Int32) : Prop := ∀ j, j < n → ∃ a c, a < 32 ∧ c < 32 ∧ lf j = nI a ∧ rf j = nI c
theorem i32_neg {a : Int32} (ha : -1000000000 ≤ a.toInt ∧ a.toInt ≤ 1000000000) : (-a).toInt64 = -a.toInt64 := by
  refine Int64.toInt_inj.mp ?_
  have h : (-a).toInt = -a.toInt := by
    rw [Int32.toInt_neg, Int.bmod_def]
    omega
  rw [Int32.toInt_toInt64, Int64.toInt_neg, Int32.toInt_toInt64, h, Int.bmod_def]
  omega
theorem x_04 {a : Int32} (h : 0 ≤ a ∧ a ≤ 4) : a = 0 ∨ a = 1 ∨ a = 2 ∨ a = 3 ∨ a = 4 := by
  obtain ⟨h1, h2⟩ := h
  rw [Int32.le_iff_toInt_le, show (0 : Int32).toInt = 0 from rfl] at h1
  rw [Int32.le_iff_toInt_le, show (4 : Int32).toInt = 4 from rfl] at h2
  have : a.toInt = 0 ∨ a.toInt = 1 ∨ a.toInt = 2 ∨ a.toInt = 3 ∨ a.toInt = 4 := by omega
  rcases this with q | q | q | q | q
  · exact Or.inl (Int32.toInt_inj.mp q)
  · exact Or.inr (Or.inl (Int32.toInt_inj.mp q))
  · exact Or.inr (Or.inr (Or.inl (Int32.toInt_inj.mp q)))
  · exact Or.inr (Or.inr (Or.inr (Or.inl (Int32.toInt_inj.mp q))))
  · exact Or.inr (Or.inr (Or.inr (Or.inr (Int32.toInt_inj.mp q))))
theorem x_14 (a : Int32) : (a.toInt < 0 ∨ 13 < a.toInt) ∨ a = 0 ∨ a = 1 ∨ a = 2 ∨ a = 3 ∨ a = 4 ∨ a = 5 ∨ a = 6 ∨ a = 7 ∨ a = 8 ∨ a = 9 ∨ a = 10 ∨ a = 11 ∨ a = 12 ∨ a = 13 := by
  have e : ∀ z : Int32, a.toInt = z.toInt → a = z := fun z h => Int32.toInt_inj.mp h
  have h : (a.toInt < 0 ∨ 13 < a.toInt) ∨ a.toInt = 0 ∨ a.toInt = 1 ∨ a.toInt = 2 ∨ a.toInt = 3 ∨ a.toInt = 4 ∨ a.toInt = 5 ∨ a.toInt = 6 ∨ a.toInt = 7 ∨ a.toInt = 8 ∨ a.toInt = 9 ∨ a.toInt = 10 ∨ a.toInt = 11 ∨ a.toInt = 12 ∨ a.toInt = 13 := by omega
  rcases h with h | h | h | h | h | h | h | h | h | h | h | h | h | h | h
  · exact Or.inl h
  all_goals refine Or.inr ?_
  · exact Or.inl (e 0 h)
  · exact Or.inr (Or.inl (e 1 h))
  · exact Or.inr (Or.inr (Or.inl (e 2 h)))
  · exact Or.inr (Or.inr (Or.inr (Or.inl (e 3 h))))
  · exact Or.inr (Or.inr (Or.inr (Or.inr (Or.inl (e 4 h)))))
  · exact Or.inr (Or.inr (Or.inr (Or.inr (Or.inr (Or.inl (e 5 h))))))
  · exact Or.inr (Or.inr (Or.inr (Or.inr (Or.inr (Or.inr (Or.inl (e 6 h)))))))
  · exact Or.inr (Or.inr (Or.inr (Or.inr (Or.inr (Or.inr (Or.inr (Or.inl (e 7 h))))))))
  · exact Or.inr (Or.inr (Or.inr (Or.inr (Or.inr (Or.inr (Or.inr (Or.inr (Or.inl (e 8 h)))))))))
  · exact Or.inr (Or.inr (Or.inr (Or.inr (Or.inr (Or.inr (Or.inr (Or.inr (Or.inr (Or.inl (e 9 h))))))))))
  · exact Or.inr (Or.inr (Or.inr (Or.inr (Or.inr (Or.inr (Or.inr (Or.inr (Or.inr (Or.inr (Or.inl (e 10 h)))))))))))
  · exact Or.inr (Or.inr (Or.inr (Or.inr (Or.inr (Or.inr (Or.inr (Or.inr (Or.inr (Or.inr (Or.inr (Or.inl (e 11 h))))))))))))
  · exact Or.inr (Or.inr (Or.inr (Or.inr (Or.inr (Or.inr (Or.inr (Or.inr (Or.inr (Or.inr (Or.inr (Or.inr (Or.inl (e 12 h)))))))))))))
  · exact Or.inr (Or.inr (Or.inr (Or.inr (Or.inr (Or.inr (Or.inr (Or.inr (Or.inr (Or.inr (Or.inr (Or.inr (Or.inr (e 13 h)))))))))))))
theorem blF_k {s : Int32} {lf rf tf mf : Nat → Int32} {U : Nat} {det : Int64} {V V' : Nat → Int64} {mm : Int32} (h : ∀ a, a < U → V a = V' a) (k i : Nat) (a : Int64) : foldN (blF s lf rf tf mf U det V mm) k i a = foldN (blF s lf rf tf mf U det V' mm) k i a := by
  refine foldN_congr k i a (fun a r _ _ => ?_)
  unfold blF
  refine foldN_congr _ 0 a (fun a j _ _ => ?_)
  have : rsF s lf rf mf U det V r j = rsF s lf rf mf U det V' r j := by
    unfold rsF
    exact foldN_congr U 0 _ (fun a z _ hz => by rw [h z (by omega)])
  rw [this]
theorem woF_k {s : Int32} {lf rf tf mf : Nat → Int32} {U : Nat} {det : Int64} {V V' : Nat → Int64} (h : ∀ a, a < U → V a = V' a) (k i : Nat) (a : Int32 × Int64) : foldN (woF s lf rf tf mf U det V) k i a = foldN (woF s lf rf tf mf U det V') k i a := by
  refine foldN_congr k i a (fun a r _ _ => ?_)
  unfold woF
  refine foldN_congr _ 0 a (fun a j _ _ => ?_)
  have : rsF s lf rf mf U det V r j = rsF s lf rf mf U det V' r j := by
    unfold rsF
    exact foldN_congr U 0 _ (fun a z _ hz => by rw [h z (by omega)])
  unfold woG
  rw [this]
theorem i32_add {a b : Int32} (ha : -1000000000 ≤ a.toInt ∧ a.toInt ≤ 1000000000) (hb : -1000000000 ≤ b.toInt ∧ b.toInt ≤ 1000000000) : (a + b).toInt = a.toInt + b.toInt ∧ (a + b).toInt64 = a.toInt64 + b.toInt64 := by
  have h : (a + b).toInt = a.toInt + b.toInt := by
    rw [Int32.toInt_add, Int.bmod_def]
    omega
  refine ⟨h, Int64.toInt_inj.mp ?_⟩
  rw [Int32.toInt_toInt64, Int64.toInt_add, Int32.toInt_toInt64, Int32.toInt_toInt64, h, Int.bmod_def]
  omega
theorem smL {mf : Nat → Int32} {i t : Nat} (h : ∀ j, j < t → -100000 ≤ (mf (6 * i + j)).toInt ∧ (mf (6 * i + j)).toInt ≤ 100000) (ht : t ≤ 6) : ∀ (k j : Nat) (a : Int32), j + k = t → -100000 * (j : Int) ≤ a.toInt → a.toInt ≤ 100000 * (j : Int) → foldN (fun a j => a + (mf (6 * i + j)).toInt64) k j a.toInt64 = (foldN (fun a j => a + mf (6 * i + j)) k j a).toInt64 ∧ -100000 * (t : Int) ≤ (foldN (fun a j => a + mf (6 * i + j)) k j a).toInt ∧ (foldN (fun a j => a + mf (6 * i + j)) k j a).toInt ≤ 100000 * (t : Int) := by
  intro k
  induction k with
  | zero =>
    intro j a hj h1 h2
    rw [show t = j by omega]
    exact ⟨rfl, h1, h2⟩
  | succ k ih =>
    intro j a hj h1 h2
    have hb := h j (by omega)
    obtain ⟨e1, e2⟩ := i32_add (a := a) (b := mf (6 * i + j)) (by omega) (by omega)
    have := ih (j + 1) (a + mf (6 * i + j)) (by omega) (by omega) (by omega)
    rw [e2] at this
    exact this
theorem sm_L {n : Nat} {tf mf : Nat → Int32} (v : vT n tf) (r : vR n tf mf) {i : Nat} (hi : i < n) : foldN (fun a j => a + (mf (6 * i + j)).toInt64) (tkF tf i) 0 0 = (smF mf (tkF tf i) i).toInt64 ∧ -600000 ≤ (smF mf (tkF tf i) i).toInt ∧ (smF mf (tkF tf i) i).toInt ≤ 600000 := by
  have h6 := (v.2 i hi).2
  obtain ⟨h1, h2, h3⟩ := smL (t := tkF tf i) (r i hi) h6 (tkF tf i) 0 0 (by omega) (by decide) (by decide)
  refine ⟨h1, ?_, ?_⟩
  · show _ ≤ (foldN (fun a j => a + mf (6 * i + j)) (tkF tf i) 0 0).toInt
    omega
  · show (foldN (fun a j => a + mf (6 * i + j)) (tkF tf i) 0 0).toInt ≤ _
    omega
