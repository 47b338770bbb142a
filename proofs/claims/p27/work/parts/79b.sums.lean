/-! Sums over the whole numbers -/
def sZ : Nat → (Nat → Int) → Int
  | 0, _ => 0
  | n + 1, g => sZ n g + g n
theorem sZ_c {f g : Nat → Int} : ∀ n, (∀ i, i < n → f i = g i) → sZ n f = sZ n g
  | 0, _ => rfl
  | n + 1, h => by
    show sZ n f + f n = sZ n g + g n
    rw [sZ_c n (fun i hi => h i (by omega)), h n (by omega)]
theorem sZ_add {f g : Nat → Int} : ∀ n, sZ n (fun i => f i + g i) = sZ n f + sZ n g
  | 0 => rfl
  | n + 1 => by
    show sZ n (fun i => f i + g i) + (f n + g n) = (sZ n f + f n) + (sZ n g + g n)
    rw [sZ_add n]
    omega
theorem sZ_mul {f : Nat → Int} {c : Int} : ∀ n, sZ n (fun i => c * f i) = c * sZ n f
  | 0 => by
    show (0 : Int) = c * 0
    omega
  | n + 1 => by
    show sZ n (fun i => c * f i) + c * f n = c * (sZ n f + f n)
    rw [sZ_mul n, Int.mul_add]
theorem sZ_0 : ∀ n, sZ n (fun _ => 0) = 0
  | 0 => rfl
  | n + 1 => by
    show sZ n (fun _ => 0) + 0 = 0
    rw [sZ_0 n]
    rfl
theorem sZ_sw {g : Nat → Nat → Int} : ∀ n m, sZ n (fun r => sZ m (fun j => g r j)) = sZ m (fun j => sZ n (fun r => g r j))
  | 0, m => (sZ_0 m).symm
  | n + 1, m => by
    show sZ n (fun r => sZ m (fun j => g r j)) + sZ m (fun j => g n j) = sZ m (fun j => sZ n (fun r => g r j) + g n j)
    rw [sZ_sw n m, sZ_add]
theorem sZ_nn {f : Nat → Int} : ∀ n, (∀ i, i < n → 0 ≤ f i) → 0 ≤ sZ n f
  | 0, _ => Int.le_refl _
  | n + 1, h => by
    show 0 ≤ sZ n f + f n
    have := sZ_nn n (fun i hi => h i (by omega))
    have := h n (by omega)
    omega
theorem sZ_z {f : Nat → Int} : ∀ n, (∀ i, i < n → 0 ≤ f i) → sZ n f = 0 → ∀ i, i < n → f i = 0
  | 0, _, _ => fun i hi => absurd hi (Nat.not_lt_zero _)
  | n + 1, h, e => by
    have e' : sZ n f + f n = 0 := e
    have h1 := sZ_nn n (fun i hi => h i (by omega))
    have h2 := h n (by omega)
    intro i hi
    by_cases c : i = n
    · rw [c]
      omega
    · exact sZ_z n (fun i hi => h i (by omega)) (by omega) i (by omega)
theorem sZ_le {f g : Nat → Int} : ∀ n, (∀ i, i < n → f i ≤ g i) → sZ n f ≤ sZ n g
  | 0, _ => Int.le_refl _
  | n + 1, h => by
    show sZ n f + f n ≤ sZ n g + g n
    have := sZ_le n (fun i hi => h i (by omega))
    have := h n (by omega)
    omega
theorem sZ_ab {f : Nat → Int} {B : Nat} : ∀ n, (∀ i, i < n → (f i).natAbs ≤ B) → (sZ n f).natAbs ≤ n * B
  | 0, _ => by
    show (0 : Int).natAbs ≤ 0 * B
    omega
  | n + 1, h => by
    show (sZ n f + f n).natAbs ≤ (n + 1) * B
    have h1 := sZ_ab n (fun i hi => h i (by omega))
    have h2 := h n (by omega)
    have h3 := Int.natAbs_add_le (sZ n f) (f n)
    rw [Nat.add_mul, Nat.one_mul]
    omega
theorem sZ_1 {f : Nat → Int} {r : Nat} : ∀ n, r < n → sZ n (fun i => if i = r then f i else 0) = f r
  | 0, h => absurd h (Nat.not_lt_zero _)
  | n + 1, h => by
    show sZ n (fun i => if i = r then f i else 0) + (if n = r then f n else 0) = f r
    by_cases c : n = r
    · rw [if_pos c, c]
      have : sZ r (fun i => if i = r then f i else 0) = 0 := by
        rw [sZ_c (g := fun _ => 0) r (fun i hi => if_neg (by omega))]
        exact sZ_0 r
      rw [this]
      omega
    · rw [if_neg c, sZ_1 n (by omega)]
      omega
theorem fo_Z {x : Nat → Int64} {g : Nat → Int} {a : Int} : ∀ k, (∀ j, j < k → x j = Int64.ofInt (g j)) → foldN (fun a j => a + x j) k 0 (Int64.ofInt a) = Int64.ofInt (a + sZ k g)
  | 0, _ => by
    show Int64.ofInt a = Int64.ofInt (a + 0)
    rw [Int.add_zero]
  | k + 1, h => by
    rw [foldN_snoc, fo_Z k (fun j hj => h j (by omega)), Nat.zero_add, h k (by omega), ← Int64.ofInt_add, Int.add_assoc]
    rfl
theorem fm_Z {x : Nat → Int64} {g : Nat → Int} {a : Int} : ∀ k, (∀ j, j < k → x j = Int64.ofInt (g j)) → foldN (fun a j => a - x j) k 0 (Int64.ofInt a) = Int64.ofInt (a - sZ k g)
  | 0, _ => by
    show Int64.ofInt a = Int64.ofInt (a - 0)
    rw [Int.sub_zero]
  | k + 1, h => by
    rw [foldN_snoc, fm_Z k (fun j hj => h j (by omega)), Nat.zero_add, h k (by omega), ← Int64.ofInt_sub]
    refine congrArg Int64.ofInt ?_
    show a - sZ k g - g k = a - (sZ k g + g k)
    omega
/-! equations of a system: n rows with factors F, T times each -/
def NZ (F : Nat → Nat → Int) (T : Nat → Int) (n i j : Nat) : Int := sZ n (fun r => F r i * F r j * T r)
def BZ (F : Nat → Nat → Int) (Y : Nat → Int) (n i : Nat) : Int := sZ n (fun r => F r i * Y r)
section PS
variable {F : Nat → Nat → Int} {T : Nat → Int} {n k : Nat} {x : Nat → Int}
/-- a row's value -/
def qZ (F : Nat → Nat → Int) (x : Nat → Int) (k r : Nat) : Int := sZ k (fun j => F r j * x j)
theorem N_q (i : Nat) : sZ k (fun j => NZ F T n i j * x j) = sZ n (fun r => T r * F r i * qZ F x k r) := by
  have e1 : sZ k (fun j => NZ F T n i j * x j) = sZ k (fun j => sZ n (fun r => T r * F r i * (F r j * x j))) := sZ_c k (fun j _ => by
    show NZ F T n i j * x j = _
    unfold NZ
    rw [Int.mul_comm, ← sZ_mul]
    exact sZ_c n (fun r _ => by grind))
  rw [e1, ← sZ_sw]
  exact sZ_c n (fun r _ => sZ_mul k)
theorem x_q : sZ k (fun i => x i * sZ k (fun j => NZ F T n i j * x j)) = sZ n (fun r => T r * (qZ F x k r * qZ F x k r)) := by
  have e1 : sZ k (fun i => x i * sZ k (fun j => NZ F T n i j * x j)) = sZ k (fun i => sZ n (fun r => T r * qZ F x k r * (F r i * x i))) := sZ_c k (fun i _ => by
    rw [N_q, ← sZ_mul]
    exact sZ_c n (fun r _ => by grind))
  rw [e1, ← sZ_sw]
  refine sZ_c n (fun r _ => ?_)
  rw [sZ_mul]
  show T r * qZ F x k r * qZ F x k r = _
  rw [Int.mul_assoc]
/-- a leading minor and the next one: cofactors x -/
theorem ps_st {D D' : Int} (hT : ∀ r, r < n → 0 ≤ T r) (h0 : ∀ i, i < k → sZ (k + 1) (fun j => NZ F T n i j * x j) = 0) (hk : sZ (k + 1) (fun j => NZ F T n k j * x j) = D') (hx : x k = D) (hD : 0 ≤ D) : 0 ≤ D' := by
  have e1 : sZ (k + 1) (fun i => x i * sZ (k + 1) (fun j => NZ F T n i j * x j)) = D * D' := by
    show sZ k (fun i => x i * sZ (k + 1) (fun j => NZ F T n i j * x j)) + x k * sZ (k + 1) (fun j => NZ F T n k j * x j) = D * D'
    rw [sZ_c (g := fun _ => 0) k (fun i hi => by rw [h0 i hi, Int.mul_zero]), sZ_0, hk, hx, Int.zero_add]
  rw [x_q] at e1
  have nn : ∀ r, r < n → 0 ≤ T r * (qZ F x (k + 1) r * qZ F x (k + 1) r) := fun r hr => Int.mul_nonneg (hT r hr) (by
    rcases Int.le_total 0 (qZ F x (k + 1) r) with q | q
    · exact Int.mul_nonneg q q
    · exact Int.mul_nonneg_of_nonpos_of_nonpos q q)
  by_cases c : D = 0
  · rw [c, Int.zero_mul] at e1
    have z := sZ_z n nn e1
    have z2 : ∀ r, r < n → T r * F r k * qZ F x (k + 1) r = 0 := fun r hr => by
      have := z r hr
      rcases Int.mul_eq_zero.mp this with q | q
      · rw [q, Int.zero_mul, Int.zero_mul]
      · rcases Int.mul_eq_zero.mp q with q | q
        · rw [q, Int.mul_zero]
        · rw [q, Int.mul_zero]
    rw [N_q, sZ_c (g := fun _ => 0) n z2, sZ_0] at hk
    omega
  · have p : 0 ≤ D * D' := by
      rw [← e1]
      exact sZ_nn n nn
    rcases Int.lt_or_le D' 0 with q | q
    · have := Int.mul_neg_of_pos_of_neg (show 0 < D by omega) q
      omega
    · exact q
end PS
