/-! Leading minors of a system's equations; bounds -/
/-- the determinant of U unknown numbers -/
def dZ (U : Nat) (E : Nat → Nat → Int) : Int := if U = 4 then e4 E 0 1 2 3 else e5 E
theorem dt_Z {U : Nat} (hU : U = 4 ∨ U = 5) {EZ : Nat → Nat → Int} : dtF U (fun r c => Int64.ofInt (EZ r c)) = Int64.ofInt (dZ U EZ) := by
  rcases hU with rfl | rfl
  · exact dt_4
  · exact dt_5
section MI
variable {F : Nat → Nat → Int} {T : Nat → Int} {n : Nat}
theorem d1_nn (hT : ∀ r, r < n → 0 ≤ T r) : 0 ≤ NZ F T n 0 0 := ps_st (k := 0) (x := fun _ => 1) (D := 1) hT (fun i hi => absurd hi (Nat.not_lt_zero _)) (by
  show 0 + NZ F T n 0 0 * 1 = NZ F T n 0 0
  grind) rfl (by decide)
theorem d2_nn (hT : ∀ r, r < n → 0 ≤ T r) : 0 ≤ e2 (NZ F T n) 0 1 := ps_st (k := 1) (x := fun j => if j = 0 then -NZ F T n 0 1 else NZ F T n 0 0) hT (fun i hi => by
  rw [show i = 0 by omega]
  show 0 + NZ F T n 0 0 * (-NZ F T n 0 1) + NZ F T n 0 1 * NZ F T n 0 0 = 0
  grind) (by
  show 0 + NZ F T n 1 0 * (-NZ F T n 0 1) + NZ F T n 1 1 * NZ F T n 0 0 = e2 (NZ F T n) 0 1
  unfold e2
  grind) rfl (d1_nn hT)
theorem d3_nn (hT : ∀ r, r < n → 0 ≤ T r) : 0 ≤ e3 (NZ F T n) 0 1 2 := ps_st (k := 2) (x := fun j => if j = 0 then e2 (NZ F T n) 1 2 else if j = 1 then -e2 (NZ F T n) 0 2 else e2 (NZ F T n) 0 1) hT (fun i hi => by
  have a0 := k3_0 (E := NZ F T n)
  have a1 := k3_1 (E := NZ F T n)
  show 0 + NZ F T n i 0 * e2 (NZ F T n) 1 2 + NZ F T n i 1 * (-e2 (NZ F T n) 0 2) + NZ F T n i 2 * e2 (NZ F T n) 0 1 = 0
  rcases (show i = 0 ∨ i = 1 by omega) with rfl | rfl
  · grind
  · grind) (by
  show 0 + NZ F T n 2 0 * e2 (NZ F T n) 1 2 + NZ F T n 2 1 * (-e2 (NZ F T n) 0 2) + NZ F T n 2 2 * e2 (NZ F T n) 0 1 = e3 (NZ F T n) 0 1 2
  unfold e3
  grind) rfl (d2_nn hT)
theorem d4_nn (hT : ∀ r, r < n → 0 ≤ T r) : 0 ≤ e4 (NZ F T n) 0 1 2 3 := ps_st (k := 3) (x := fun j => if j = 0 then -e3 (NZ F T n) 1 2 3 else if j = 1 then e3 (NZ F T n) 0 2 3 else if j = 2 then -e3 (NZ F T n) 0 1 3 else e3 (NZ F T n) 0 1 2) hT (fun i hi => by
  have a0 := k4_0 (E := NZ F T n)
  have a1 := k4_1 (E := NZ F T n)
  have a2 := k4_2 (E := NZ F T n)
  show 0 + NZ F T n i 0 * (-e3 (NZ F T n) 1 2 3) + NZ F T n i 1 * e3 (NZ F T n) 0 2 3 + NZ F T n i 2 * (-e3 (NZ F T n) 0 1 3) + NZ F T n i 3 * e3 (NZ F T n) 0 1 2 = 0
  rcases (show i = 0 ∨ i = 1 ∨ i = 2 by omega) with rfl | rfl | rfl
  · grind
  · grind
  · grind) (by
  show 0 + NZ F T n 3 0 * (-e3 (NZ F T n) 1 2 3) + NZ F T n 3 1 * e3 (NZ F T n) 0 2 3 + NZ F T n 3 2 * (-e3 (NZ F T n) 0 1 3) + NZ F T n 3 3 * e3 (NZ F T n) 0 1 2 = e4 (NZ F T n) 0 1 2 3
  unfold e4
  grind) rfl (d3_nn hT)
theorem d5_nn (hT : ∀ r, r < n → 0 ≤ T r) : 0 ≤ e5 (NZ F T n) := ps_st (k := 4) (x := fun j => if j = 0 then e4 (NZ F T n) 1 2 3 4 else if j = 1 then -e4 (NZ F T n) 0 2 3 4 else if j = 2 then e4 (NZ F T n) 0 1 3 4 else if j = 3 then -e4 (NZ F T n) 0 1 2 4 else e4 (NZ F T n) 0 1 2 3) hT (fun i hi => by
  have a0 := k5_0 (E := NZ F T n)
  have a1 := k5_1 (E := NZ F T n)
  have a2 := k5_2 (E := NZ F T n)
  have a3 := k5_3 (E := NZ F T n)
  show 0 + NZ F T n i 0 * e4 (NZ F T n) 1 2 3 4 + NZ F T n i 1 * (-e4 (NZ F T n) 0 2 3 4) + NZ F T n i 2 * e4 (NZ F T n) 0 1 3 4 + NZ F T n i 3 * (-e4 (NZ F T n) 0 1 2 4) + NZ F T n i 4 * e4 (NZ F T n) 0 1 2 3 = 0
  rcases (show i = 0 ∨ i = 1 ∨ i = 2 ∨ i = 3 by omega) with rfl | rfl | rfl | rfl
  · grind
  · grind
  · grind
  · grind) (by
  show 0 + NZ F T n 4 0 * e4 (NZ F T n) 1 2 3 4 + NZ F T n 4 1 * (-e4 (NZ F T n) 0 2 3 4) + NZ F T n 4 2 * e4 (NZ F T n) 0 1 3 4 + NZ F T n 4 3 * (-e4 (NZ F T n) 0 1 2 4) + NZ F T n 4 4 * e4 (NZ F T n) 0 1 2 3 = e5 (NZ F T n)
  unfold e5
  grind) rfl (d4_nn hT)
theorem dZ_nn {U : Nat} (hT : ∀ r, r < n → 0 ≤ T r) : 0 ≤ dZ U (NZ F T n) := by
  unfold dZ
  split
  · exact d4_nn hT
  · exact d5_nn hT
end MI
/-! bounds -/
theorem ab_m {x y : Int} {A B : Nat} (hx : x.natAbs ≤ A) (hy : y.natAbs ≤ B) : (x * y).natAbs ≤ A * B := by
  rw [Int.natAbs_mul]
  exact Nat.mul_le_mul hx hy
theorem ab_a {x y : Int} {A B : Nat} (hx : x.natAbs ≤ A) (hy : y.natAbs ≤ B) : (x + y).natAbs ≤ A + B := by omega
theorem ab_s {x y : Int} {A B : Nat} (hx : x.natAbs ≤ A) (hy : y.natAbs ≤ B) : (x - y).natAbs ≤ A + B := by omega
def b2 (w : Nat → Nat) (a b : Nat) : Nat := w b * w a + w a * w b
def b3 (w : Nat → Nat) (a b c : Nat) : Nat := w c * b2 w a b + w b * b2 w a c + w a * b2 w b c
def b4 (w : Nat → Nat) (a b c d : Nat) : Nat := w d * b3 w a b c + w c * b3 w a b d + w b * b3 w a c d + w a * b3 w b c d
def b5 (w : Nat → Nat) : Nat := w 4 * b4 w 0 1 2 3 + w 3 * b4 w 0 1 2 4 + w 2 * b4 w 0 1 3 4 + w 1 * b4 w 0 2 3 4 + w 0 * b4 w 1 2 3 4
section BO
variable {E : Nat → Nat → Int} {w : Nat → Nat}
theorem e2_b (h : ∀ r c, (E r c).natAbs ≤ w c) (a b : Nat) : (e2 E a b).natAbs ≤ b2 w a b := ab_s (ab_m (h _ _) (h _ _)) (ab_m (h _ _) (h _ _))
theorem e3_b (h : ∀ r c, (E r c).natAbs ≤ w c) (a b c : Nat) : (e3 E a b c).natAbs ≤ b3 w a b c := ab_a (ab_s (ab_m (h _ _) (e2_b h _ _)) (ab_m (h _ _) (e2_b h _ _))) (ab_m (h _ _) (e2_b h _ _))
theorem e4_b (h : ∀ r c, (E r c).natAbs ≤ w c) (a b c d : Nat) : (e4 E a b c d).natAbs ≤ b4 w a b c d := ab_s (ab_a (ab_s (ab_m (h _ _) (e3_b h _ _ _)) (ab_m (h _ _) (e3_b h _ _ _))) (ab_m (h _ _) (e3_b h _ _ _))) (ab_m (h _ _) (e3_b h _ _ _))
theorem e5_b (h : ∀ r c, (E r c).natAbs ≤ w c) : (e5 E).natAbs ≤ b5 w := ab_a (ab_s (ab_a (ab_s (ab_m (h _ _) (e4_b h _ _ _ _)) (ab_m (h _ _) (e4_b h _ _ _ _))) (ab_m (h _ _) (e4_b h _ _ _ _))) (ab_m (h _ _) (e4_b h _ _ _ _))) (ab_m (h _ _) (e4_b h _ _ _ _))
end BO
def wQ (q : Nat) : Nat → Nat := fun c => if c = q then 16800000 else 72
theorem b_num : b4 (fun _ => 72) 0 1 2 3 ≤ 232190115840 ∧ b5 (fun _ => 72) ≤ 232190115840 ∧ ∀ q, q < 5 → b4 (wQ q) 0 1 2 3 ≤ 54177693696000000 ∧ b5 (wQ q) ≤ 54177693696000000 := by decide +kernel
/-- a system: rows, factors, weights, led-to sums within their limits -/
def syZ (F : Nat → Nat → Int) (T Y : Nat → Int) (n : Nat) : Prop := n ≤ 12 ∧ (∀ r i, (F r i).natAbs ≤ 1) ∧ (∀ r, r < n → 0 ≤ T r ∧ T r ≤ 6) ∧ ∀ r, r < n → (Y r).natAbs ≤ 1400000
section SY
variable {F : Nat → Nat → Int} {T Y : Nat → Int} {n U : Nat}
theorem sy_N (s : syZ F T Y n) (i j : Nat) : (NZ F T n i j).natAbs ≤ 72 := by
  obtain ⟨h1, h2, h3, -⟩ := s
  have := sZ_ab (f := fun r => F r i * F r j * T r) (B := 6) n (fun r hr => by
    have a := ab_m (ab_m (h2 r i) (h2 r j)) (show (T r).natAbs ≤ 6 by have := h3 r hr; omega)
    omega)
  have e : n * 6 ≤ 72 := by omega
  exact Nat.le_trans this e
theorem sy_B (s : syZ F T Y n) (i : Nat) : (BZ F Y n i).natAbs ≤ 16800000 := by
  obtain ⟨h1, h2, -, h4⟩ := s
  have := sZ_ab (f := fun r => F r i * Y r) (B := 1400000) n (fun r hr => by
    have a := ab_m (h2 r i) (h4 r hr)
    omega)
  have e : n * 1400000 ≤ 16800000 := by omega
  exact Nat.le_trans this e
theorem sy_d (s : syZ F T Y n) : 0 ≤ dZ U (NZ F T n) ∧ dZ U (NZ F T n) ≤ 232190115840 := by
  have nn : 0 ≤ dZ U (NZ F T n) := dZ_nn (fun r hr => (s.2.2.1 r hr).1)
  refine ⟨nn, ?_⟩
  have b : (dZ U (NZ F T n)).natAbs ≤ 232190115840 := by
    unfold dZ
    split
    · exact Nat.le_trans (e4_b (w := fun _ => 72) (fun r c => sy_N s r c) 0 1 2 3) b_num.1
    · exact Nat.le_trans (e5_b (w := fun _ => 72) (fun r c => sy_N s r c)) b_num.2.1
  omega
theorem sy_n (s : syZ F T Y n) {a : Nat} (ha : a < 5) : (dZ U (coR (NZ F T n) (BZ F Y n) a)).natAbs ≤ 54177693696000000 := by
  have h : ∀ r c, (coR (NZ F T n) (BZ F Y n) a r c).natAbs ≤ wQ a c := by
    intro r c
    unfold coR wQ
    by_cases q : c = a
    · rw [if_pos q, if_pos q]
      exact sy_B s r
    · rw [if_neg q, if_neg q]
      exact sy_N s r c
  obtain ⟨b1, b2⟩ := b_num.2.2 a ha
  unfold dZ
  split
  · exact Nat.le_trans (e4_b h 0 1 2 3) b1
  · exact Nat.le_trans (e5_b h) b2
/-- Cramer's rule, as a sum -/
theorem cr_s (hU : U = 4 ∨ U = 5) {E : Nat → Nat → Int} {B : Nat → Int} {i : Nat} (hi : i < U) : sZ U (fun j => E i j * dZ U (coR E B j)) = dZ U E * B i := by
  rcases hU with rfl | rfl
  · show 0 + E i 0 * e4 (coR E B 0) 0 1 2 3 + E i 1 * e4 (coR E B 1) 0 1 2 3 + E i 2 * e4 (coR E B 2) 0 1 2 3 + E i 3 * e4 (coR E B 3) 0 1 2 3 = e4 E 0 1 2 3 * B i
    rw [Int.zero_add]
    rcases (show i = 0 ∨ i = 1 ∨ i = 2 ∨ i = 3 by omega) with rfl | rfl | rfl | rfl
    · exact cr4_0
    · exact cr4_1
    · exact cr4_2
    · exact cr4_3
  · show 0 + E i 0 * e5 (coR E B 0) + E i 1 * e5 (coR E B 1) + E i 2 * e5 (coR E B 2) + E i 3 * e5 (coR E B 3) + E i 4 * e5 (coR E B 4) = e5 E * B i
    rw [Int.zero_add]
    rcases (show i = 0 ∨ i = 1 ∨ i = 2 ∨ i = 3 ∨ i = 4 by omega) with rfl | rfl | rfl | rfl | rfl
    · exact cr5_0
    · exact cr5_1
    · exact cr5_2
    · exact cr5_3
    · exact cr5_4
end SY
