/-! The sum of sign times residual is small -/
theorem sZ_k {c : Int} : ∀ n, sZ n (fun _ => c) = (n : Int) * c
  | 0 => by
    show (0 : Int) = (0 : Int) * c
    omega
  | n + 1 => by
    show sZ n (fun _ => c) + c = ((n + 1 : Nat) : Int) * c
    rw [sZ_k n]
    grind
theorem sq_nn (x : Int) : 0 ≤ x * x := by
  rcases Int.le_total 0 x with q | q
  · exact Int.mul_nonneg q q
  · exact Int.mul_nonneg_of_nonpos_of_nonpos q q
theorem sq_le {x C : Int} (h1 : -C ≤ x) (h2 : x ≤ C) : x * x ≤ C * C := by
  have a : 0 ≤ (C - x) * (C + x) := Int.mul_nonneg (by omega) (by omega)
  have e : (C - x) * (C + x) = C * C - x * x := by grind
  omega
theorem s_sq {t z R : Int} (hz : z.natAbs ≤ 1) : 2 * t * (z * R) ≤ t * t + R * R ∧ -(2 * t * (z * R)) ≤ t * t + R * R := by
  have a := sq_nn (t - R)
  have b := sq_nn (t + R)
  have e1 : (t - R) * (t - R) = t * t - 2 * (t * R) + R * R := by grind
  have e2 : (t + R) * (t + R) = t * t + 2 * (t * R) + R * R := by grind
  have c1 := sq_nn t
  have c2 := sq_nn R
  rcases (show z = -1 ∨ z = 0 ∨ z = 1 by omega) with rfl | rfl | rfl
  · have e3 : 2 * t * (-1 * R) = -(2 * (t * R)) := by grind
    rw [e3]
    omega
  · have e3 : 2 * t * (0 * R) = 0 := by grind
    rw [e3]
    omega
  · have e3 : 2 * t * (1 * R) = 2 * (t * R) := by grind
    rw [e3]
    omega
section BA
variable {F : Nat → Nat → Int} {T Y : Nat → Int} {n U : Nat} {t : Nat → Nat} {y : Nat → Nat → Int} {z : Nat → Int} {D : Int} {num : Nat → Int}
/-- a row's residuals together -/
theorem w_1 {q : Int} {m : Nat} {v : Nat → Int} : sZ m (fun k => D * v k - q) = D * sZ m v - (m : Int) * q := by
  have e : sZ m (fun k => D * v k - q) = sZ m (fun k => D * v k + -q) := sZ_c m (fun k _ => by omega)
  rw [e, sZ_add, sZ_mul, sZ_k]
  grind
theorem w_2 (hc : ∀ i, i < U → sZ U (fun j => NZ F T n i j * num j) = D * BZ F Y n i) {i : Nat} (hi : i < U) : sZ n (fun r => F r i * (D * Y r - T r * qZ F num U r)) = 0 := by
  have e : sZ n (fun r => F r i * (D * Y r - T r * qZ F num U r)) = sZ n (fun r => D * (F r i * Y r) + -1 * (T r * F r i * qZ F num U r)) := sZ_c n (fun r _ => by grind)
  rw [e, sZ_add, sZ_mul, sZ_mul, ← N_q, hc i hi]
  show D * BZ F Y n i + -1 * (D * BZ F Y n i) = 0
  omega
theorem w_3 (hc : ∀ i, i < U → sZ U (fun j => NZ F T n i j * num j) = D * BZ F Y n i) : sZ n (fun r => qZ F num U r * (D * Y r - T r * qZ F num U r)) = 0 := by
  have e : sZ n (fun r => qZ F num U r * (D * Y r - T r * qZ F num U r)) = sZ n (fun r => sZ U (fun i => num i * (F r i * (D * Y r - T r * qZ F num U r)))) := sZ_c n (fun r _ => by
    have e2 : qZ F num U r * (D * Y r - T r * qZ F num U r) = (D * Y r - T r * qZ F num U r) * sZ U (fun i => F r i * num i) := Int.mul_comm _ _
    rw [e2, ← sZ_mul]
    exact sZ_c U (fun i _ => by grind))
  rw [e, sZ_sw, sZ_c (g := fun _ => 0) U (fun i hi => by rw [sZ_mul, w_2 hc hi, Int.mul_zero]), sZ_0]
theorem ba_i (hn : n ≤ 12) (hc : ∀ i, i < U → sZ U (fun j => NZ F T n i j * num j) = D * BZ F Y n i) (hD : 0 ≤ D) (hT : ∀ r, r < n → T r = (t r : Int)) (ht : ∀ r, r < n → t r ≤ 6) (hY : ∀ r, r < n → Y r = sZ (t r) (y r)) (hy : ∀ r k, r < n → k < t r → (y r k).natAbs ≤ 200000) (hz : ∀ r, (z r).natAbs ≤ 1) : (sZ n (fun r => sZ (t r) (fun k => z r * (D * y r k - qZ F num U r)))).natAbs ≤ (72 * (200000 * D + 1)).natAbs := by
  have hC : 0 ≤ 200000 * D := by omega
  -- squares of what is read, row by row
  have eA : ∀ r, r < n → sZ (t r) (fun k => (D * y r k) * (D * y r k)) = sZ (t r) (fun k => (D * y r k - qZ F num U r) * (D * y r k - qZ F num U r)) + (2 * (qZ F num U r * (D * Y r - T r * qZ F num U r)) + T r * (qZ F num U r * qZ F num U r)) := by
    intro r hr
    have e1 : sZ (t r) (fun k => (D * y r k) * (D * y r k)) = sZ (t r) (fun k => (D * y r k - qZ F num U r) * (D * y r k - qZ F num U r) + ((2 * qZ F num U r) * (D * y r k - qZ F num U r) + qZ F num U r * qZ F num U r)) := sZ_c _ (fun k _ => by grind)
    rw [e1, sZ_add, sZ_add, sZ_mul, w_1, sZ_k, ← hY r hr, ← hT r hr]
    grind
  have SA : sZ n (fun r => sZ (t r) (fun k => (D * y r k) * (D * y r k))) = sZ n (fun r => sZ (t r) (fun k => (D * y r k - qZ F num U r) * (D * y r k - qZ F num U r))) + sZ n (fun r => T r * (qZ F num U r * qZ F num U r)) := by
    rw [sZ_c n eA, sZ_add, sZ_add, sZ_mul, w_3 hc]
    omega
  have p1 : 0 ≤ sZ n (fun r => T r * (qZ F num U r * qZ F num U r)) := sZ_nn n (fun r hr => Int.mul_nonneg (by rw [hT r hr]; omega) (sq_nn _))
  have k6 : ∀ (r : Nat) (X : Int), r < n → 0 ≤ X → ((t r : Nat) : Int) * X ≤ 6 * X := fun r X hr hX => Int.mul_le_mul_of_nonneg_right (by have := ht r hr; omega) hX
  have k12 : ∀ X : Int, 0 ≤ X → ((n : Nat) : Int) * (6 * X) ≤ 72 * X := fun X hX => by
    have := Int.mul_le_mul_of_nonneg_right (show ((n : Nat) : Int) ≤ 12 by omega) (show 0 ≤ 6 * X by omega)
    omega
  have pA : sZ n (fun r => sZ (t r) (fun k => (D * y r k) * (D * y r k))) ≤ 72 * ((200000 * D) * (200000 * D)) := by
    have h := sZ_le (f := fun r => sZ (t r) (fun k => (D * y r k) * (D * y r k))) (g := fun _ => 6 * ((200000 * D) * (200000 * D))) n (fun r hr => by
      have h2 := sZ_le (f := fun k => (D * y r k) * (D * y r k)) (g := fun _ => (200000 * D) * (200000 * D)) (t r) (fun k hk => by
        have b := hy r k hr hk
        have b1 : D * y r k ≤ D * 200000 := Int.mul_le_mul_of_nonneg_left (by omega) hD
        have b2 : D * (-200000) ≤ D * y r k := Int.mul_le_mul_of_nonneg_left (by omega) hD
        exact sq_le (by omega) (by omega))
      rw [sZ_k] at h2
      exact Int.le_trans h2 (k6 r _ hr (sq_nn _)))
    rw [sZ_k] at h
    exact Int.le_trans h (k12 _ (sq_nn _))
  have pR : sZ n (fun r => sZ (t r) (fun k => (D * y r k - qZ F num U r) * (D * y r k - qZ F num U r))) ≤ 72 * ((200000 * D) * (200000 * D)) := by omega
  generalize hT0 : 200000 * D + 1 = t0
  have ht0 : 1 ≤ t0 := by omega
  have pT : sZ n (fun r => sZ (t r) (fun _ => t0 * t0)) ≤ 72 * (t0 * t0) := by
    have h := sZ_le (f := fun r => sZ (t r) (fun _ => t0 * t0)) (g := fun _ => 6 * (t0 * t0)) n (fun r hr => by
      show sZ (t r) (fun _ => t0 * t0) ≤ 6 * (t0 * t0)
      rw [sZ_k]
      exact k6 r _ hr (sq_nn _))
    rw [sZ_k] at h
    exact Int.le_trans h (k12 _ (sq_nn _))
  have hCt : (200000 * D) * (200000 * D) ≤ t0 * t0 := sq_le (by omega) (by omega)
  have sumR : sZ n (fun r => sZ (t r) (fun k => t0 * t0 + (D * y r k - qZ F num U r) * (D * y r k - qZ F num U r))) ≤ 144 * (t0 * t0) := by
    rw [sZ_c (g := fun r => sZ (t r) (fun _ => t0 * t0) + sZ (t r) (fun k => (D * y r k - qZ F num U r) * (D * y r k - qZ F num U r))) n (fun r _ => sZ_add (t r)), sZ_add]
    omega
  have up : sZ n (fun r => sZ (t r) (fun k => 2 * t0 * (z r * (D * y r k - qZ F num U r)))) ≤ 144 * (t0 * t0) := Int.le_trans (sZ_le n (fun r _ => sZ_le (t r) (fun k _ => (s_sq (hz r)).1))) sumR
  have dn' : sZ n (fun r => sZ (t r) (fun k => (-(2 * t0)) * (z r * (D * y r k - qZ F num U r)))) ≤ 144 * (t0 * t0) := Int.le_trans (sZ_le n (fun r _ => sZ_le (t r) (fun k _ => by
    have := (s_sq (t := t0) (R := D * y r k - qZ F num U r) (hz r)).2
    rw [Int.neg_mul]
    exact this))) sumR
  rw [sZ_c (g := fun r => 2 * t0 * sZ (t r) (fun k => z r * (D * y r k - qZ F num U r))) n (fun r _ => sZ_mul (t r)), sZ_mul] at up
  rw [sZ_c (g := fun r => (-(2 * t0)) * sZ (t r) (fun k => z r * (D * y r k - qZ F num U r))) n (fun r _ => sZ_mul (t r)), sZ_mul] at dn'
  generalize sZ n (fun r => sZ (t r) (fun k => z r * (D * y r k - qZ F num U r))) = X at up dn' ⊢
  have e144 : 144 * (t0 * t0) = 2 * t0 * (72 * t0) := by grind
  rw [e144] at up dn'
  have u1 : X ≤ 72 * t0 := Int.le_of_mul_le_mul_left up (by omega)
  have u2 : -X ≤ 72 * t0 := Int.le_of_mul_le_mul_left (a := 2 * t0) (by
    have : 2 * t0 * -X = -(2 * t0) * X := by grind
    rw [this]
    exact dn') (by omega)
  omega
end BA
