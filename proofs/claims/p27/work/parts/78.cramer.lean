/-! Cramer's rule -/
def coR (E : Nat → Nat → Int) (B : Nat → Int) (a : Nat) : Nat → Nat → Int := fun r c => if c = a then B r else E r c
section CR
variable {E : Nat → Nat → Int} {B : Nat → Int}
theorem co_00 (r : Nat) : coR E B 0 r 0 = B r := rfl
theorem co_01 (r : Nat) : coR E B 0 r 1 = E r 1 := rfl
theorem co_02 (r : Nat) : coR E B 0 r 2 = E r 2 := rfl
theorem co_03 (r : Nat) : coR E B 0 r 3 = E r 3 := rfl
theorem co_04 (r : Nat) : coR E B 0 r 4 = E r 4 := rfl
theorem co_10 (r : Nat) : coR E B 1 r 0 = E r 0 := rfl
theorem co_11 (r : Nat) : coR E B 1 r 1 = B r := rfl
theorem co_12 (r : Nat) : coR E B 1 r 2 = E r 2 := rfl
theorem co_13 (r : Nat) : coR E B 1 r 3 = E r 3 := rfl
theorem co_14 (r : Nat) : coR E B 1 r 4 = E r 4 := rfl
theorem co_20 (r : Nat) : coR E B 2 r 0 = E r 0 := rfl
theorem co_21 (r : Nat) : coR E B 2 r 1 = E r 1 := rfl
theorem co_22 (r : Nat) : coR E B 2 r 2 = B r := rfl
theorem co_23 (r : Nat) : coR E B 2 r 3 = E r 3 := rfl
theorem co_24 (r : Nat) : coR E B 2 r 4 = E r 4 := rfl
theorem co_30 (r : Nat) : coR E B 3 r 0 = E r 0 := rfl
theorem co_31 (r : Nat) : coR E B 3 r 1 = E r 1 := rfl
theorem co_32 (r : Nat) : coR E B 3 r 2 = E r 2 := rfl
theorem co_33 (r : Nat) : coR E B 3 r 3 = B r := rfl
theorem co_34 (r : Nat) : coR E B 3 r 4 = E r 4 := rfl
theorem co_40 (r : Nat) : coR E B 4 r 0 = E r 0 := rfl
theorem co_41 (r : Nat) : coR E B 4 r 1 = E r 1 := rfl
theorem co_42 (r : Nat) : coR E B 4 r 2 = E r 2 := rfl
theorem co_43 (r : Nat) : coR E B 4 r 3 = E r 3 := rfl
theorem co_44 (r : Nat) : coR E B 4 r 4 = B r := rfl
theorem cr4_0 : E 0 0 * e4 (coR E B 0) 0 1 2 3 + E 0 1 * e4 (coR E B 1) 0 1 2 3 + E 0 2 * e4 (coR E B 2) 0 1 2 3 + E 0 3 * e4 (coR E B 3) 0 1 2 3 = e4 E 0 1 2 3 * B 0 := by
  simp only [e4, e3, e2, co_00, co_01, co_02, co_03, co_10, co_11, co_12, co_13, co_20, co_21, co_22, co_23, co_30, co_31, co_32, co_33]
  grind
theorem cr4_1 : E 1 0 * e4 (coR E B 0) 0 1 2 3 + E 1 1 * e4 (coR E B 1) 0 1 2 3 + E 1 2 * e4 (coR E B 2) 0 1 2 3 + E 1 3 * e4 (coR E B 3) 0 1 2 3 = e4 E 0 1 2 3 * B 1 := by
  simp only [e4, e3, e2, co_00, co_01, co_02, co_03, co_10, co_11, co_12, co_13, co_20, co_21, co_22, co_23, co_30, co_31, co_32, co_33]
  grind
theorem cr4_2 : E 2 0 * e4 (coR E B 0) 0 1 2 3 + E 2 1 * e4 (coR E B 1) 0 1 2 3 + E 2 2 * e4 (coR E B 2) 0 1 2 3 + E 2 3 * e4 (coR E B 3) 0 1 2 3 = e4 E 0 1 2 3 * B 2 := by
  simp only [e4, e3, e2, co_00, co_01, co_02, co_03, co_10, co_11, co_12, co_13, co_20, co_21, co_22, co_23, co_30, co_31, co_32, co_33]
  grind
theorem cr4_3 : E 3 0 * e4 (coR E B 0) 0 1 2 3 + E 3 1 * e4 (coR E B 1) 0 1 2 3 + E 3 2 * e4 (coR E B 2) 0 1 2 3 + E 3 3 * e4 (coR E B 3) 0 1 2 3 = e4 E 0 1 2 3 * B 3 := by
  simp only [e4, e3, e2, co_00, co_01, co_02, co_03, co_10, co_11, co_12, co_13, co_20, co_21, co_22, co_23, co_30, co_31, co_32, co_33]
  grind
set_option maxHeartbeats 4000000 in
theorem cr5_0 : E 0 0 * e5 (coR E B 0) + E 0 1 * e5 (coR E B 1) + E 0 2 * e5 (coR E B 2) + E 0 3 * e5 (coR E B 3) + E 0 4 * e5 (coR E B 4) = e5 E * B 0 := by
  simp only [e5, e4, e3, e2, co_00, co_01, co_02, co_03, co_04, co_10, co_11, co_12, co_13, co_14, co_20, co_21, co_22, co_23, co_24, co_30, co_31, co_32, co_33, co_34, co_40, co_41, co_42, co_43, co_44]
  grind
set_option maxHeartbeats 4000000 in
theorem cr5_1 : E 1 0 * e5 (coR E B 0) + E 1 1 * e5 (coR E B 1) + E 1 2 * e5 (coR E B 2) + E 1 3 * e5 (coR E B 3) + E 1 4 * e5 (coR E B 4) = e5 E * B 1 := by
  simp only [e5, e4, e3, e2, co_00, co_01, co_02, co_03, co_04, co_10, co_11, co_12, co_13, co_14, co_20, co_21, co_22, co_23, co_24, co_30, co_31, co_32, co_33, co_34, co_40, co_41, co_42, co_43, co_44]
  grind
set_option maxHeartbeats 4000000 in
theorem cr5_2 : E 2 0 * e5 (coR E B 0) + E 2 1 * e5 (coR E B 1) + E 2 2 * e5 (coR E B 2) + E 2 3 * e5 (coR E B 3) + E 2 4 * e5 (coR E B 4) = e5 E * B 2 := by
  simp only [e5, e4, e3, e2, co_00, co_01, co_02, co_03, co_04, co_10, co_11, co_12, co_13, co_14, co_20, co_21, co_22, co_23, co_24, co_30, co_31, co_32, co_33, co_34, co_40, co_41, co_42, co_43, co_44]
  grind
set_option maxHeartbeats 4000000 in
theorem cr5_3 : E 3 0 * e5 (coR E B 0) + E 3 1 * e5 (coR E B 1) + E 3 2 * e5 (coR E B 2) + E 3 3 * e5 (coR E B 3) + E 3 4 * e5 (coR E B 4) = e5 E * B 3 := by
  simp only [e5, e4, e3, e2, co_00, co_01, co_02, co_03, co_04, co_10, co_11, co_12, co_13, co_14, co_20, co_21, co_22, co_23, co_24, co_30, co_31, co_32, co_33, co_34, co_40, co_41, co_42, co_43, co_44]
  grind
set_option maxHeartbeats 4000000 in
theorem cr5_4 : E 4 0 * e5 (coR E B 0) + E 4 1 * e5 (coR E B 1) + E 4 2 * e5 (coR E B 2) + E 4 3 * e5 (coR E B 3) + E 4 4 * e5 (coR E B 4) = e5 E * B 4 := by
  simp only [e5, e4, e3, e2, co_00, co_01, co_02, co_03, co_04, co_10, co_11, co_12, co_13, co_14, co_20, co_21, co_22, co_23, co_24, co_30, co_31, co_32, co_33, co_34, co_40, co_41, co_42, co_43, co_44]
  grind
end CR
