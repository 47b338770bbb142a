/-! Linear systems: the numerators of a system that x solves; fewer readings than unknown numbers -/
section LX
variable {E E' : Nat → Nat → Int} {x : Nat → Int}
set_option maxHeartbeats 4000000 in
theorem crx4_0 : e4 (coR E (fun r => 0 + E r 0 * x 0 + E r 1 * x 1 + E r 2 * x 2 + E r 3 * x 3) 0) 0 1 2 3 = x 0 * e4 E 0 1 2 3 := by
  simp only [e4, e3, e2, co_00, co_01, co_02, co_03, co_10, co_11, co_12, co_13, co_20, co_21, co_22, co_23, co_30, co_31, co_32, co_33]
  grind
set_option maxHeartbeats 4000000 in
theorem crx4_1 : e4 (coR E (fun r => 0 + E r 0 * x 0 + E r 1 * x 1 + E r 2 * x 2 + E r 3 * x 3) 1) 0 1 2 3 = x 1 * e4 E 0 1 2 3 := by
  simp only [e4, e3, e2, co_00, co_01, co_02, co_03, co_10, co_11, co_12, co_13, co_20, co_21, co_22, co_23, co_30, co_31, co_32, co_33]
  grind
set_option maxHeartbeats 4000000 in
theorem crx4_2 : e4 (coR E (fun r => 0 + E r 0 * x 0 + E r 1 * x 1 + E r 2 * x 2 + E r 3 * x 3) 2) 0 1 2 3 = x 2 * e4 E 0 1 2 3 := by
  simp only [e4, e3, e2, co_00, co_01, co_02, co_03, co_10, co_11, co_12, co_13, co_20, co_21, co_22, co_23, co_30, co_31, co_32, co_33]
  grind
set_option maxHeartbeats 4000000 in
theorem crx4_3 : e4 (coR E (fun r => 0 + E r 0 * x 0 + E r 1 * x 1 + E r 2 * x 2 + E r 3 * x 3) 3) 0 1 2 3 = x 3 * e4 E 0 1 2 3 := by
  simp only [e4, e3, e2, co_00, co_01, co_02, co_03, co_10, co_11, co_12, co_13, co_20, co_21, co_22, co_23, co_30, co_31, co_32, co_33]
  grind
set_option maxHeartbeats 8000000 in
theorem crx5_0 : e5 (coR E (fun r => 0 + E r 0 * x 0 + E r 1 * x 1 + E r 2 * x 2 + E r 3 * x 3 + E r 4 * x 4) 0) = x 0 * e5 E := by
  simp only [e5, e4, e3, e2, co_00, co_01, co_02, co_03, co_04, co_10, co_11, co_12, co_13, co_14, co_20, co_21, co_22, co_23, co_24, co_30, co_31, co_32, co_33, co_34, co_40, co_41, co_42, co_43, co_44]
  grind
set_option maxHeartbeats 8000000 in
theorem crx5_1 : e5 (coR E (fun r => 0 + E r 0 * x 0 + E r 1 * x 1 + E r 2 * x 2 + E r 3 * x 3 + E r 4 * x 4) 1) = x 1 * e5 E := by
  simp only [e5, e4, e3, e2, co_00, co_01, co_02, co_03, co_04, co_10, co_11, co_12, co_13, co_14, co_20, co_21, co_22, co_23, co_24, co_30, co_31, co_32, co_33, co_34, co_40, co_41, co_42, co_43, co_44]
  grind
set_option maxHeartbeats 8000000 in
theorem crx5_2 : e5 (coR E (fun r => 0 + E r 0 * x 0 + E r 1 * x 1 + E r 2 * x 2 + E r 3 * x 3 + E r 4 * x 4) 2) = x 2 * e5 E := by
  simp only [e5, e4, e3, e2, co_00, co_01, co_02, co_03, co_04, co_10, co_11, co_12, co_13, co_14, co_20, co_21, co_22, co_23, co_24, co_30, co_31, co_32, co_33, co_34, co_40, co_41, co_42, co_43, co_44]
  grind
set_option maxHeartbeats 8000000 in
theorem crx5_3 : e5 (coR E (fun r => 0 + E r 0 * x 0 + E r 1 * x 1 + E r 2 * x 2 + E r 3 * x 3 + E r 4 * x 4) 3) = x 3 * e5 E := by
  simp only [e5, e4, e3, e2, co_00, co_01, co_02, co_03, co_04, co_10, co_11, co_12, co_13, co_14, co_20, co_21, co_22, co_23, co_24, co_30, co_31, co_32, co_33, co_34, co_40, co_41, co_42, co_43, co_44]
  grind
set_option maxHeartbeats 8000000 in
theorem crx5_4 : e5 (coR E (fun r => 0 + E r 0 * x 0 + E r 1 * x 1 + E r 2 * x 2 + E r 3 * x 3 + E r 4 * x 4) 4) = x 4 * e5 E := by
  simp only [e5, e4, e3, e2, co_00, co_01, co_02, co_03, co_04, co_10, co_11, co_12, co_13, co_14, co_20, co_21, co_22, co_23, co_24, co_30, co_31, co_32, co_33, co_34, co_40, co_41, co_42, co_43, co_44]
  grind
theorem crx {U : Nat} (hU : U = 4 ∨ U = 5) {a : Nat} (ha : a < U) : dZ U (coR E (fun r => sZ U (fun c => E r c * x c)) a) = x a * dZ U E := by
  rcases hU with rfl | rfl
  · rcases (show a = 0 ∨ a = 1 ∨ a = 2 ∨ a = 3 by omega) with rfl | rfl | rfl | rfl
    · exact crx4_0
    · exact crx4_1
    · exact crx4_2
    · exact crx4_3
  · rcases (show a = 0 ∨ a = 1 ∨ a = 2 ∨ a = 3 ∨ a = 4 by omega) with rfl | rfl | rfl | rfl | rfl
    · exact crx5_0
    · exact crx5_1
    · exact crx5_2
    · exact crx5_3
    · exact crx5_4
theorem dZ_c {U : Nat} (hU : U = 4 ∨ U = 5) (h : ∀ r c, r < U → c < U → E r c = E' r c) : dZ U E = dZ U E' := by
  rcases hU with rfl | rfl
  · show e4 E 0 1 2 3 = e4 E' 0 1 2 3
    simp only [e4, e3, e2, h 0 0 (by omega) (by omega), h 0 1 (by omega) (by omega), h 0 2 (by omega) (by omega), h 0 3 (by omega) (by omega), h 1 0 (by omega) (by omega), h 1 1 (by omega) (by omega), h 1 2 (by omega) (by omega), h 1 3 (by omega) (by omega), h 2 0 (by omega) (by omega), h 2 1 (by omega) (by omega), h 2 2 (by omega) (by omega), h 2 3 (by omega) (by omega), h 3 0 (by omega) (by omega), h 3 1 (by omega) (by omega), h 3 2 (by omega) (by omega), h 3 3 (by omega) (by omega)]
  · show e5 E = e5 E'
    simp only [e5, e4, e3, e2, h 0 0 (by omega) (by omega), h 0 1 (by omega) (by omega), h 0 2 (by omega) (by omega), h 0 3 (by omega) (by omega), h 0 4 (by omega) (by omega), h 1 0 (by omega) (by omega), h 1 1 (by omega) (by omega), h 1 2 (by omega) (by omega), h 1 3 (by omega) (by omega), h 1 4 (by omega) (by omega), h 2 0 (by omega) (by omega), h 2 1 (by omega) (by omega), h 2 2 (by omega) (by omega), h 2 3 (by omega) (by omega), h 2 4 (by omega) (by omega), h 3 0 (by omega) (by omega), h 3 1 (by omega) (by omega), h 3 2 (by omega) (by omega), h 3 3 (by omega) (by omega), h 3 4 (by omega) (by omega), h 4 0 (by omega) (by omega), h 4 1 (by omega) (by omega), h 4 2 (by omega) (by omega), h 4 3 (by omega) (by omega), h 4 4 (by omega) (by omega)]
theorem co_c {U : Nat} (hU : U = 4 ∨ U = 5) {B B' : Nat → Int} (h : ∀ r, r < U → B r = B' r) (a : Nat) : dZ U (coR E B a) = dZ U (coR E B' a) := dZ_c hU (fun r c hr _ => by
  unfold coR
  by_cases e : c = a
  · rw [if_pos e, if_pos e]
    exact h r hr
  · rw [if_neg e, if_neg e])
/-- what solves a system has its numerators -/
theorem cr_x {U : Nat} (hU : U = 4 ∨ U = 5) {B : Nat → Int} (h : ∀ r, r < U → B r = sZ U (fun c => E r c * x c)) {a : Nat} (ha : a < U) : dZ U (coR E B a) = x a * dZ U E := by
  rw [co_c hU h, crx hU ha]
theorem ker0 {U : Nat} (hU : U = 4 ∨ U = 5) {a : Nat} (ha : a < U) (hx : x a ≠ 0) (h : ∀ r, r < U → sZ U (fun c => E r c * x c) = 0) : dZ U E = 0 := by
  have h1 := cr_x (E := E) (x := x) hU (B := fun _ => 0) (fun r hr => (h r hr).symm) ha
  have h2 := cr_x (E := E) (x := fun _ => 0) hU (B := fun _ => 0) (fun r hr => by
    rw [sZ_c (g := fun _ => 0) U (fun c _ => Int.mul_zero _), sZ_0]) ha
  rw [h2, Int.zero_mul] at h1
  rcases Int.mul_eq_zero.mp h1.symm with q | q
  · exact absurd q hx
  · exact q
end LX
/-- fewer equations than unknown numbers: something else than 0 solves them -/
theorem kerE {F : Nat → Nat → Int} {T : Nat → Int} {U : Nat} : ∀ (n : Nat) (c : List Nat), (∀ r, r < n → 0 ≤ T r) → c.Nodup → (∀ j, j ∈ c → j < U) → sZ n T < (c.length : Int) → ∃ x : Nat → Int, (∃ j, j ∈ c ∧ x j ≠ 0) ∧ (∀ j, j ∉ c → x j = 0) ∧ ∀ r, r < n → T r = 0 ∨ sZ U (fun i => F r i * x i) = 0
  | 0, [], _, _, _, hl => by
    have : (0 : Int) < (([] : List Nat).length : Int) := hl
    simp at this
  | 0, a :: c, _, _, _, _ => ⟨fun j => if j = a then 1 else 0, ⟨a, List.mem_cons_self, by show (if a = a then (1 : Int) else 0) ≠ 0; rw [if_pos rfl]; decide⟩, fun j hj => if_neg (fun q => hj (by rw [q]; exact List.mem_cons_self)), fun r hr => absurd hr (Nat.not_lt_zero _)⟩
  | n + 1, c, hT, hd, hc, hl => by
    have hl' : sZ n T + T n < (c.length : Int) := hl
    have hT' : ∀ r, r < n → 0 ≤ T r := fun r hr => hT r (by omega)
    by_cases t0 : T n = 0
    · obtain ⟨x, x1, x2, x3⟩ := kerE (F := F) n c hT' hd hc (by omega)
      refine ⟨x, x1, x2, fun r hr => ?_⟩
      by_cases e : r = n
      · rw [e]
        exact Or.inl t0
      · exact x3 r (by omega)
    · have t1 := hT n (by omega)
      have t2 : sZ n T + 1 < (c.length : Int) := by omega
      have nn := sZ_nn n hT'
      cases c with
      | nil =>
        rw [List.length_nil] at t2
        omega
      | cons a c =>
        rw [List.length_cons] at t2
        obtain ⟨x, ⟨j, j1, j2⟩, x2, x3⟩ := kerE (F := F) n c hT' (List.nodup_cons.mp hd).2 (fun j hj => hc j (List.mem_cons_of_mem _ hj)) (by omega)
        have jm : j ∈ a :: c := List.mem_cons_of_mem _ j1
        have el : ((a :: c).erase j).length = c.length := by
          rw [List.length_erase_of_mem jm, List.length_cons]
          omega
        obtain ⟨y, ⟨i, i1, i2⟩, y2, y3⟩ := kerE (F := F) n ((a :: c).erase j) hT' (hd.erase j) (fun i hi => hc i (List.mem_of_mem_erase hi)) (by rw [el]; omega)
        have yj : y j = 0 := y2 j (fun q => (hd.mem_erase_iff.mp q).1 rfl)
        have sx : ∀ k, k ∉ a :: c → x k = 0 := fun k hk => x2 k (fun q => hk (List.mem_cons_of_mem _ q))
        have sy : ∀ k, k ∉ a :: c → y k = 0 := fun k hk => y2 k (fun q => hk (List.mem_of_mem_erase q))
        by_cases p0 : sZ U (fun i => F n i * x i) = 0
        · refine ⟨x, ⟨j, jm, j2⟩, sx, fun r hr => ?_⟩
          by_cases e : r = n
          · rw [e]
            exact Or.inr p0
          · exact x3 r (by omega)
        · by_cases q0 : sZ U (fun i => F n i * y i) = 0
          · refine ⟨y, ⟨i, List.mem_of_mem_erase i1, i2⟩, sy, fun r hr => ?_⟩
            by_cases e : r = n
            · rw [e]
              exact Or.inr q0
            · exact y3 r (by omega)
          · have lin : ∀ r, sZ U (fun i => F r i * (sZ U (fun i => F n i * y i) * x i + -sZ U (fun i => F n i * x i) * y i)) = sZ U (fun i => F n i * y i) * sZ U (fun i => F r i * x i) + -sZ U (fun i => F n i * x i) * sZ U (fun i => F r i * y i) := by
              intro r
              generalize sZ U (fun i => F n i * y i) = qq
              generalize -sZ U (fun i => F n i * x i) = pp
              rw [← sZ_mul, ← sZ_mul, ← sZ_add]
              exact sZ_c U (fun i _ => by grind)
            refine ⟨fun i => sZ U (fun i => F n i * y i) * x i + -sZ U (fun i => F n i * x i) * y i, ⟨j, jm, ?_⟩, fun k hk => ?_, fun r hr => ?_⟩
            · show sZ U (fun i => F n i * y i) * x j + -sZ U (fun i => F n i * x i) * y j ≠ 0
              rw [yj, Int.mul_zero, Int.add_zero]
              intro q
              rcases Int.mul_eq_zero.mp q with q | q
              · exact q0 q
              · exact j2 q
            · show sZ U (fun i => F n i * y i) * x k + -sZ U (fun i => F n i * x i) * y k = 0
              rw [sx k hk, sy k hk, Int.mul_zero, Int.mul_zero, Int.add_zero]
            · by_cases e : r = n
              · rw [e]
                refine Or.inr ?_
                rw [lin n]
                generalize sZ U (fun i => F n i * y i) = qq
                generalize sZ U (fun i => F n i * x i) = pp
                grind
              · rcases x3 r (by omega) with q | q
                · exact Or.inl q
                · rcases y3 r (by omega) with q2 | q2
                  · exact Or.inl q2
                  · refine Or.inr ?_
                    rw [lin r, q, q2, Int.mul_zero, Int.mul_zero, Int.add_zero]
/-- fewer readings than unknown numbers -/
theorem few {F : Nat → Nat → Int} {T : Nat → Int} {n U : Nat} (hU : U = 4 ∨ U = 5) (hT : ∀ r, r < n → 0 ≤ T r) (h : sZ n T < (U : Int)) : dZ U (NZ F T n) = 0 := by
  obtain ⟨x, ⟨j, j1, j2⟩, -, x3⟩ := kerE (F := F) (T := T) (U := U) n (List.range U) hT List.nodup_range (fun j hj => List.mem_range.mp hj) (by rw [List.length_range]; exact h)
  refine ker0 (x := x) hU (List.mem_range.mp j1) j2 (fun i hi => ?_)
  rw [N_q, sZ_c (g := fun _ => 0) n (fun r hr => ?_), sZ_0]
  rcases x3 r hr with q | q
  · rw [q, Int.zero_mul, Int.zero_mul]
  · have q2 : qZ F x U r = 0 := q
    rw [q2, Int.mul_zero]
