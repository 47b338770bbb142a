/-! Determinants over the whole numbers, by the first rows and some columns -/
def e2 (E : Nat → Nat → Int) (a b : Nat) : Int := E 1 b * E 0 a - E 1 a * E 0 b
def e3 (E : Nat → Nat → Int) (a b c : Nat) : Int := E 2 c * e2 E a b - E 2 b * e2 E a c + E 2 a * e2 E b c
def e4 (E : Nat → Nat → Int) (a b c d : Nat) : Int := E 3 d * e3 E a b c - E 3 c * e3 E a b d + E 3 b * e3 E a c d - E 3 a * e3 E b c d
def e5 (E : Nat → Nat → Int) : Int := E 4 4 * e4 E 0 1 2 3 - E 4 3 * e4 E 0 1 2 4 + E 4 2 * e4 E 0 1 3 4 - E 4 1 * e4 E 0 2 3 4 + E 4 0 * e4 E 1 2 3 4
section DT
variable {E : Nat → Nat → Int}
theorem k3_0 : E 0 2 * e2 E 0 1 - E 0 1 * e2 E 0 2 + E 0 0 * e2 E 1 2 = 0 := by
  unfold e2
  grind
theorem k3_1 : E 1 2 * e2 E 0 1 - E 1 1 * e2 E 0 2 + E 1 0 * e2 E 1 2 = 0 := by
  unfold e2
  grind
theorem k4_0 : E 0 3 * e3 E 0 1 2 - E 0 2 * e3 E 0 1 3 + E 0 1 * e3 E 0 2 3 - E 0 0 * e3 E 1 2 3 = 0 := by
  unfold e3 e2
  grind
theorem k4_1 : E 1 3 * e3 E 0 1 2 - E 1 2 * e3 E 0 1 3 + E 1 1 * e3 E 0 2 3 - E 1 0 * e3 E 1 2 3 = 0 := by
  unfold e3 e2
  grind
theorem k4_2 : E 2 3 * e3 E 0 1 2 - E 2 2 * e3 E 0 1 3 + E 2 1 * e3 E 0 2 3 - E 2 0 * e3 E 1 2 3 = 0 := by
  unfold e3 e2
  grind
theorem k5_0 : E 0 4 * e4 E 0 1 2 3 - E 0 3 * e4 E 0 1 2 4 + E 0 2 * e4 E 0 1 3 4 - E 0 1 * e4 E 0 2 3 4 + E 0 0 * e4 E 1 2 3 4 = 0 := by
  unfold e4 e3 e2
  grind
theorem k5_1 : E 1 4 * e4 E 0 1 2 3 - E 1 3 * e4 E 0 1 2 4 + E 1 2 * e4 E 0 1 3 4 - E 1 1 * e4 E 0 2 3 4 + E 1 0 * e4 E 1 2 3 4 = 0 := by
  unfold e4 e3 e2
  grind
theorem k5_2 : E 2 4 * e4 E 0 1 2 3 - E 2 3 * e4 E 0 1 2 4 + E 2 2 * e4 E 0 1 3 4 - E 2 1 * e4 E 0 2 3 4 + E 2 0 * e4 E 1 2 3 4 = 0 := by
  unfold e4 e3 e2
  grind
theorem k5_3 : E 3 4 * e4 E 0 1 2 3 - E 3 3 * e4 E 0 1 2 4 + E 3 2 * e4 E 0 1 3 4 - E 3 1 * e4 E 0 2 3 4 + E 3 0 * e4 E 1 2 3 4 = 0 := by
  unfold e4 e3 e2
  grind
end DT
