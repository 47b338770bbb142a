/-! fractions: both Euclids come to the same divisor -/
theorem bm64 {z : Int} (h1 : -9223372036854775808 ≤ z) (h2 : z < 9223372036854775808) : z.bmod 18446744073709551616 = z := by
  rw [Int.bmod_def]
  omega
theorem x_rem {x y : Int64} (hx : 0 ≤ x.toInt) (hy : 0 < y.toInt) : (x - x / y * y).toInt = x.toInt % y.toInt := by
  have hX : x.toInt < 9223372036854775808 := Int64.toInt_lt x
  have h1 := Int.emod_add_mul_ediv x.toInt y.toInt
  have h2 := Int.emod_nonneg x.toInt (show y.toInt ≠ 0 by omega)
  have h3 := Int.emod_lt_of_pos x.toInt hy
  have h4 : 0 ≤ x.toInt / y.toInt := Int.ediv_nonneg hx (by omega)
  have h5 : x.toInt / y.toInt ≤ x.toInt := Int.ediv_le_self _ hx
  rw [Int64.toInt_sub, Int64.toInt_mul, Int64.toInt_div, Int.tdiv_eq_ediv_of_nonneg hx]
  have e1 : (x.toInt / y.toInt).bmod (2 ^ 64) = x.toInt / y.toInt := bm64 (by omega) (by omega)
  rw [e1, Int.mul_comm]
  generalize y.toInt * (x.toInt / y.toInt) = z at h1 ⊢
  have hY : y.toInt < 9223372036854775808 := Int64.toInt_lt y
  have e2 : z.bmod (2 ^ 64) = z := bm64 (by omega) (by omega)
  rw [e2]
  have e3 : (x.toInt - z).bmod (2 ^ 64) = x.toInt - z := bm64 (by omega) (by omega)
  rw [e3]
  omega
theorem ab_int {x : Int64} (h : x.toInt ≠ -9223372036854775808) : (abL x).toInt = (x.toInt.natAbs : Int) := by
  have h1 := Int64.le_toInt x
  have h2 := Int64.toInt_lt x
  have h1' : (-9223372036854775808 : Int) ≤ x.toInt := h1
  have h2' : x.toInt < 9223372036854775808 := h2
  unfold abL
  by_cases c : 0 < x
  · rw [if_pos c]
    have := Int64.lt_iff_toInt_lt.mp c
    rw [show (0 : Int64).toInt = 0 from rfl] at this
    omega
  · rw [if_neg c, Int64.toInt_neg]
    have : ¬ (0 : Int64).toInt < x.toInt := fun q => c (Int64.lt_iff_toInt_lt.mpr q)
    rw [show (0 : Int64).toInt = 0 from rfl] at this
    have e : (-x.toInt).bmod (2 ^ 64) = -x.toInt := bm64 (by omega) (by omega)
    rw [e]
    omega
def giN : Nat → Nat × Nat
  | 0 => (1, 2)
  | k + 1 => ((giN k).2, (giN k).1 + (giN k).2)
theorem gcd_st {x y : Int} (hx : 0 ≤ x) (hy : 0 < y) : Int.gcd x y = Int.gcd y (x % y) := by
  obtain ⟨X, rfl⟩ := Int.eq_ofNat_of_zero_le hx
  obtain ⟨Y, rfl⟩ := Int.eq_ofNat_of_zero_le (show 0 ≤ y by omega)
  show Nat.gcd X Y = Nat.gcd Y (X % Y)
  rw [Nat.gcd_comm X Y, Nat.gcd_rec Y X, Nat.gcd_comm]
theorem eu_S : ∀ (k : Nat), (∀ x y : Int64, 0 ≤ y.toInt → y.toInt < x.toInt → x.toInt < ((giN k).1 : Int) → (euF k x y).toInt = (Int.gcd x.toInt y.toInt : Int)) ∧ (∀ x y : Int64, 0 ≤ y.toInt → y.toInt < x.toInt → x.toInt < ((giN k).2 : Int) → (euF (k + 1) x y).toInt = (Int.gcd x.toInt y.toInt : Int)) := by
  have z0 : ∀ y : Int64, y.toInt = 0 ↔ y = 0 := fun y => ⟨fun h => Int64.toInt_inj.mp h, fun h => by rw [h]; rfl⟩
  have base : ∀ k x y, y.toInt = 0 → 0 ≤ x.toInt → (euF (k + 1) x y).toInt = (Int.gcd x.toInt y.toInt : Int) := by
    intro k x y h hx
    have e : euF (k + 1) x y = x := if_pos ((z0 y).mp h)
    rw [e, h, Int.gcd_zero_right]
    omega
  have step : ∀ k x y, 0 ≤ x.toInt → 0 < y.toInt → (euF k y (x - x / y * y)).toInt = (Int.gcd y.toInt (x - x / y * y).toInt : Int) → (euF (k + 1) x y).toInt = (Int.gcd x.toInt y.toInt : Int) := by
    intro k x y hx hy h
    have e : euF (k + 1) x y = euF k y (x - x / y * y) := if_neg (fun q => by rw [(z0 y).mpr q] at hy; omega)
    rw [e, h, x_rem hx hy, ← gcd_st hx hy]
  intro k
  induction k with
  | zero =>
    refine ⟨fun x y h1 h2 h3 => ?_, fun x y h1 h2 h3 => ?_⟩
    · have : x.toInt < 1 := h3
      omega
    · have : x.toInt < 2 := h3
      exact base 0 x y (by omega) (by omega)
  | succ k ih =>
    refine ⟨ih.2, fun x y h1 h2 h3 => ?_⟩
    have h3' : x.toInt < (((giN k).1 + (giN k).2 : Nat) : Int) := h3
    rcases Int.lt_or_le 0 y.toInt with q | q
    · refine step (k + 1) x y (by omega) q ?_
      have r0 := x_rem (x := x) (by omega) q
      have r1 := Int.emod_nonneg x.toInt (show y.toInt ≠ 0 by omega)
      have r2 := Int.emod_lt_of_pos x.toInt q
      rcases Int.lt_or_le y.toInt ((giN k).2 : Int) with c | c
      · exact ih.2 y _ (by omega) (by omega) c
      · rcases Int.lt_or_le 0 (x - x / y * y).toInt with q2 | q2
        · refine step k y _ (by omega) q2 ?_
          have s0 := x_rem (x := y) (by omega) q2
          have s1 := Int.emod_nonneg y.toInt (show (x - x / y * y).toInt ≠ 0 by omega)
          have s2 := Int.emod_lt_of_pos y.toInt q2
          refine ih.1 _ _ (by omega) (by omega) ?_
          have t1 := Int.emod_add_mul_ediv x.toInt y.toInt
          have t2 : 1 ≤ x.toInt / y.toInt := by
            rw [Int.le_ediv_iff_mul_le q]
            omega
          have t3 : y.toInt * 1 ≤ y.toInt * (x.toInt / y.toInt) := Int.mul_le_mul_of_nonneg_left t2 (by omega)
          omega
        · exact base k y _ (by omega) (by omega)
    · exact base (k + 1) x y (by omega) (by omega)
theorem gi99 : 9223372036854775808 < (giN 98).2 ∧ 9223372036854775808 < (giN 99).2 := by decide +kernel
theorem cd_gcd {d x : Int64} (hd : 0 < d.toInt) (hx : x.toInt ≠ -9223372036854775808) : (cdF d x).toInt = (Int.gcd d.toInt x.toInt : Int) := by
  have hD : d.toInt < 9223372036854775808 := Int64.toInt_lt d
  have hX : x.toInt < 9223372036854775808 := Int64.toInt_lt x
  have hX1 : -9223372036854775808 ≤ x.toInt := Int64.le_toInt x
  have a1 : (abL d).toInt = d.toInt := by rw [ab_int (by omega)]; omega
  have a2 := ab_int hx
  have key : (euF 100 (abL d) (abL x)).toInt = (Int.gcd d.toInt x.toInt : Int) := by
    have eg : Int.gcd d.toInt x.toInt = Int.gcd (abL d).toInt (abL x).toInt := by
      rw [a1, a2]
      simp [Int.gcd]
    rw [eg]
    rcases Int.lt_or_le (abL x).toInt (abL d).toInt with c | c
    · exact (eu_S 99).2 _ _ (by omega) c (by have := gi99.2; omega)
    · have z0 : ¬ abL x = 0 := by
        intro q
        rw [q, show (0 : Int64).toInt = 0 from rfl] at c
        omega
      have e : euF 100 (abL d) (abL x) = euF 99 (abL x) (abL d - abL d / abL x * abL x) := if_neg z0
      have r0 := x_rem (x := abL d) (y := abL x) (by omega) (by omega)
      have r1 := Int.emod_nonneg (abL d).toInt (show (abL x).toInt ≠ 0 by omega)
      have r2 := Int.emod_lt_of_pos (abL d).toInt (show 0 < (abL x).toInt by omega)
      rw [e, gcd_st (x := (abL d).toInt) (by omega) (by omega), ← r0]
      exact (eu_S 98).2 _ _ (by omega) (by omega) (by have := gi99.1; omega)
  have hg : 0 < Int.gcd d.toInt x.toInt := Int.gcd_pos_of_ne_zero_left _ (by omega)
  unfold cdF
  by_cases c : 1 < euF 100 (abL d) (abL x)
  · rw [if_pos c, key]
  · rw [if_neg c]
    have : ¬ (1 : Int64).toInt < (euF 100 (abL d) (abL x)).toInt := fun q => c (Int64.lt_iff_toInt_lt.mpr q)
    rw [key, show (1 : Int64).toInt = 1 from rfl] at this
    rw [show (1 : Int64).toInt = 1 from rfl]
    omega
