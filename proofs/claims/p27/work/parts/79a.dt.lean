/-! The class' recursion over the whole numbers -/
def xpZ (E M : Nat → Int) (c : Nat) : Nat → Int → Int → Int
  | 0, a, _ => a
  | k + 1, a, g => if c / 2 ^ k % 2 = 1 then xpZ E M c k (a + g * E k * M (c - 2 ^ k)) (-g) else xpZ E M c k a g
def mnZ (U : Nat) (E : Nat → Nat → Int) : Nat → (Nat → Int)
  | 0 => fun _ => 1
  | k + 1 => fun j => if j = k + 1 then xpZ (E (pcN (k + 1) - 1)) (mnZ U E k) (k + 1) U 0 1 else mnZ U E k j
theorem xp_Z {EZ MZ : Nat → Int} {c : Nat} : ∀ (k : Nat) (aZ : Int) (g : Int32) (gZ : Int), (g = 1 ∧ gZ = 1 ∨ g = -1 ∧ gZ = -1) → xpF (fun j => Int64.ofInt (EZ j)) (fun j => Int64.ofInt (MZ j)) c k (Int64.ofInt aZ) g = Int64.ofInt (xpZ EZ MZ c k aZ gZ)
  | 0, _, _, _, _ => rfl
  | k + 1, aZ, g, gZ, h => by
    show (if c / 2 ^ k % 2 = 1 then xpF _ _ c k (Int64.ofInt aZ + g.toInt64 * Int64.ofInt (EZ k) * Int64.ofInt (MZ (c - 2 ^ k))) (-g) else xpF _ _ c k (Int64.ofInt aZ) g) = Int64.ofInt (if c / 2 ^ k % 2 = 1 then xpZ EZ MZ c k (aZ + gZ * EZ k * MZ (c - 2 ^ k)) (-gZ) else xpZ EZ MZ c k aZ gZ)
    by_cases q : c / 2 ^ k % 2 = 1
    · rw [if_pos q, if_pos q]
      have hg : g.toInt64 = Int64.ofInt gZ := by
        rcases h with ⟨h1, h2⟩ | ⟨h1, h2⟩
        · rw [h1, h2]; rfl
        · rw [h1, h2]; rfl
      rw [hg, ← Int64.ofInt_mul, ← Int64.ofInt_mul, ← Int64.ofInt_add]
      refine xp_Z k _ (-g) (-gZ) ?_
      rcases h with ⟨h1, h2⟩ | ⟨h1, h2⟩
      · exact Or.inr ⟨by rw [h1], by rw [h2]⟩
      · exact Or.inl ⟨by rw [h1]; rfl, by rw [h2]; rfl⟩
    · rw [if_neg q, if_neg q]
      exact xp_Z k aZ g gZ h
theorem mn_Z {U : Nat} {EZ : Nat → Nat → Int} : ∀ k j, mnT U (fun r c => Int64.ofInt (EZ r c)) k j = Int64.ofInt (mnZ U EZ k j)
  | 0, _ => rfl
  | k + 1, j => by
    have e : mnT U (fun r c => Int64.ofInt (EZ r c)) k = fun j => Int64.ofInt (mnZ U EZ k j) := funext fun j => mn_Z k j
    show vp_updL (mnT U (fun r c => Int64.ofInt (EZ r c)) k) (k + 1) (xpF (fun c => Int64.ofInt (EZ (pcN (k + 1) - 1) c)) (mnT U (fun r c => Int64.ofInt (EZ r c)) k) (k + 1) U 0 1) j = Int64.ofInt (if j = k + 1 then xpZ (EZ (pcN (k + 1) - 1)) (mnZ U EZ k) (k + 1) U 0 1 else mnZ U EZ k j)
    rw [e]
    unfold vp_updL
    by_cases q : j = k + 1
    · rw [if_pos q, if_pos q]
      exact xp_Z U 0 1 1 (Or.inl ⟨rfl, rfl⟩)
    · rw [if_neg q, if_neg q]
theorem mn_at {U : Nat} {E : Nat → Nat → Int} : ∀ k c, c ≤ k → mnZ U E k c = mnZ U E c c
  | 0, c, h => by
    rw [show c = 0 by omega]
  | k + 1, c, h => by
    by_cases q : c = k + 1
    · rw [q]
    · have e : mnZ U E (k + 1) c = mnZ U E k c := if_neg q
      rw [e]
      exact mn_at k c (by omega)
theorem mn_st {U k : Nat} {E : Nat → Nat → Int} : mnZ U E (k + 1) (k + 1) = xpZ (E (pcN (k + 1) - 1)) (mnZ U E k) (k + 1) U 0 1 := if_pos rfl
theorem mn_00 {U : Nat} {E : Nat → Nat → Int} : mnZ U E 0 0 = 1 := rfl
section DZ
variable {E : Nat → Nat → Int}
theorem t4_1 : mnZ 4 E 1 1 = E 0 0 := by
  have h : mnZ 4 E 1 1 = 0 + 1 * E 0 0 * mnZ 4 E 0 0 := mn_st (k := 0)
  rw [h, mn_at 0 0 (by omega), mn_00]
  grind
theorem t4_2 : mnZ 4 E 2 2 = E 0 1 := by
  have h : mnZ 4 E 2 2 = 0 + 1 * E 0 1 * mnZ 4 E 1 0 := mn_st (k := 1)
  rw [h, mn_at 1 0 (by omega), mn_00]
  grind
theorem t4_3 : mnZ 4 E 3 3 = e2 E 0 1 := by
  have h : mnZ 4 E 3 3 = 0 + 1 * E 1 1 * mnZ 4 E 2 1 + (-1) * E 1 0 * mnZ 4 E 2 2 := mn_st (k := 2)
  rw [h, mn_at 2 1 (by omega), mn_at 2 2 (by omega), t4_1, t4_2]
  unfold e2
  grind
theorem t4_4 : mnZ 4 E 4 4 = E 0 2 := by
  have h : mnZ 4 E 4 4 = 0 + 1 * E 0 2 * mnZ 4 E 3 0 := mn_st (k := 3)
  rw [h, mn_at 3 0 (by omega), mn_00]
  grind
theorem t4_5 : mnZ 4 E 5 5 = e2 E 0 2 := by
  have h : mnZ 4 E 5 5 = 0 + 1 * E 1 2 * mnZ 4 E 4 1 + (-1) * E 1 0 * mnZ 4 E 4 4 := mn_st (k := 4)
  rw [h, mn_at 4 1 (by omega), mn_at 4 4 (by omega), t4_1, t4_4]
  unfold e2
  grind
theorem t4_6 : mnZ 4 E 6 6 = e2 E 1 2 := by
  have h : mnZ 4 E 6 6 = 0 + 1 * E 1 2 * mnZ 4 E 5 2 + (-1) * E 1 1 * mnZ 4 E 5 4 := mn_st (k := 5)
  rw [h, mn_at 5 2 (by omega), mn_at 5 4 (by omega), t4_2, t4_4]
  unfold e2
  grind
theorem t4_7 : mnZ 4 E 7 7 = e3 E 0 1 2 := by
  have h : mnZ 4 E 7 7 = 0 + 1 * E 2 2 * mnZ 4 E 6 3 + (-1) * E 2 1 * mnZ 4 E 6 5 + (-(-1)) * E 2 0 * mnZ 4 E 6 6 := mn_st (k := 6)
  rw [h, mn_at 6 3 (by omega), mn_at 6 5 (by omega), mn_at 6 6 (by omega), t4_3, t4_5, t4_6]
  unfold e3
  grind
theorem t4_8 : mnZ 4 E 8 8 = E 0 3 := by
  have h : mnZ 4 E 8 8 = 0 + 1 * E 0 3 * mnZ 4 E 7 0 := mn_st (k := 7)
  rw [h, mn_at 7 0 (by omega), mn_00]
  grind
theorem t4_9 : mnZ 4 E 9 9 = e2 E 0 3 := by
  have h : mnZ 4 E 9 9 = 0 + 1 * E 1 3 * mnZ 4 E 8 1 + (-1) * E 1 0 * mnZ 4 E 8 8 := mn_st (k := 8)
  rw [h, mn_at 8 1 (by omega), mn_at 8 8 (by omega), t4_1, t4_8]
  unfold e2
  grind
theorem t4_10 : mnZ 4 E 10 10 = e2 E 1 3 := by
  have h : mnZ 4 E 10 10 = 0 + 1 * E 1 3 * mnZ 4 E 9 2 + (-1) * E 1 1 * mnZ 4 E 9 8 := mn_st (k := 9)
  rw [h, mn_at 9 2 (by omega), mn_at 9 8 (by omega), t4_2, t4_8]
  unfold e2
  grind
theorem t4_11 : mnZ 4 E 11 11 = e3 E 0 1 3 := by
  have h : mnZ 4 E 11 11 = 0 + 1 * E 2 3 * mnZ 4 E 10 3 + (-1) * E 2 1 * mnZ 4 E 10 9 + (-(-1)) * E 2 0 * mnZ 4 E 10 10 := mn_st (k := 10)
  rw [h, mn_at 10 3 (by omega), mn_at 10 9 (by omega), mn_at 10 10 (by omega), t4_3, t4_9, t4_10]
  unfold e3
  grind
theorem t4_12 : mnZ 4 E 12 12 = e2 E 2 3 := by
  have h : mnZ 4 E 12 12 = 0 + 1 * E 1 3 * mnZ 4 E 11 4 + (-1) * E 1 2 * mnZ 4 E 11 8 := mn_st (k := 11)
  rw [h, mn_at 11 4 (by omega), mn_at 11 8 (by omega), t4_4, t4_8]
  unfold e2
  grind
theorem t4_13 : mnZ 4 E 13 13 = e3 E 0 2 3 := by
  have h : mnZ 4 E 13 13 = 0 + 1 * E 2 3 * mnZ 4 E 12 5 + (-1) * E 2 2 * mnZ 4 E 12 9 + (-(-1)) * E 2 0 * mnZ 4 E 12 12 := mn_st (k := 12)
  rw [h, mn_at 12 5 (by omega), mn_at 12 9 (by omega), mn_at 12 12 (by omega), t4_5, t4_9, t4_12]
  unfold e3
  grind
theorem t4_14 : mnZ 4 E 14 14 = e3 E 1 2 3 := by
  have h : mnZ 4 E 14 14 = 0 + 1 * E 2 3 * mnZ 4 E 13 6 + (-1) * E 2 2 * mnZ 4 E 13 10 + (-(-1)) * E 2 1 * mnZ 4 E 13 12 := mn_st (k := 13)
  rw [h, mn_at 13 6 (by omega), mn_at 13 10 (by omega), mn_at 13 12 (by omega), t4_6, t4_10, t4_12]
  unfold e3
  grind
theorem t4_15 : mnZ 4 E 15 15 = e4 E 0 1 2 3 := by
  have h : mnZ 4 E 15 15 = 0 + 1 * E 3 3 * mnZ 4 E 14 7 + (-1) * E 3 2 * mnZ 4 E 14 11 + (-(-1)) * E 3 1 * mnZ 4 E 14 13 + (-(-(-1))) * E 3 0 * mnZ 4 E 14 14 := mn_st (k := 14)
  rw [h, mn_at 14 7 (by omega), mn_at 14 11 (by omega), mn_at 14 13 (by omega), mn_at 14 14 (by omega), t4_7, t4_11, t4_13, t4_14]
  unfold e4
  grind
theorem t5_1 : mnZ 5 E 1 1 = E 0 0 := by
  have h : mnZ 5 E 1 1 = 0 + 1 * E 0 0 * mnZ 5 E 0 0 := mn_st (k := 0)
  rw [h, mn_at 0 0 (by omega), mn_00]
  grind
theorem t5_2 : mnZ 5 E 2 2 = E 0 1 := by
  have h : mnZ 5 E 2 2 = 0 + 1 * E 0 1 * mnZ 5 E 1 0 := mn_st (k := 1)
  rw [h, mn_at 1 0 (by omega), mn_00]
  grind
theorem t5_3 : mnZ 5 E 3 3 = e2 E 0 1 := by
  have h : mnZ 5 E 3 3 = 0 + 1 * E 1 1 * mnZ 5 E 2 1 + (-1) * E 1 0 * mnZ 5 E 2 2 := mn_st (k := 2)
  rw [h, mn_at 2 1 (by omega), mn_at 2 2 (by omega), t5_1, t5_2]
  unfold e2
  grind
theorem t5_4 : mnZ 5 E 4 4 = E 0 2 := by
  have h : mnZ 5 E 4 4 = 0 + 1 * E 0 2 * mnZ 5 E 3 0 := mn_st (k := 3)
  rw [h, mn_at 3 0 (by omega), mn_00]
  grind
theorem t5_5 : mnZ 5 E 5 5 = e2 E 0 2 := by
  have h : mnZ 5 E 5 5 = 0 + 1 * E 1 2 * mnZ 5 E 4 1 + (-1) * E 1 0 * mnZ 5 E 4 4 := mn_st (k := 4)
  rw [h, mn_at 4 1 (by omega), mn_at 4 4 (by omega), t5_1, t5_4]
  unfold e2
  grind
theorem t5_6 : mnZ 5 E 6 6 = e2 E 1 2 := by
  have h : mnZ 5 E 6 6 = 0 + 1 * E 1 2 * mnZ 5 E 5 2 + (-1) * E 1 1 * mnZ 5 E 5 4 := mn_st (k := 5)
  rw [h, mn_at 5 2 (by omega), mn_at 5 4 (by omega), t5_2, t5_4]
  unfold e2
  grind
theorem t5_7 : mnZ 5 E 7 7 = e3 E 0 1 2 := by
  have h : mnZ 5 E 7 7 = 0 + 1 * E 2 2 * mnZ 5 E 6 3 + (-1) * E 2 1 * mnZ 5 E 6 5 + (-(-1)) * E 2 0 * mnZ 5 E 6 6 := mn_st (k := 6)
  rw [h, mn_at 6 3 (by omega), mn_at 6 5 (by omega), mn_at 6 6 (by omega), t5_3, t5_5, t5_6]
  unfold e3
  grind
theorem t5_8 : mnZ 5 E 8 8 = E 0 3 := by
  have h : mnZ 5 E 8 8 = 0 + 1 * E 0 3 * mnZ 5 E 7 0 := mn_st (k := 7)
  rw [h, mn_at 7 0 (by omega), mn_00]
  grind
theorem t5_9 : mnZ 5 E 9 9 = e2 E 0 3 := by
  have h : mnZ 5 E 9 9 = 0 + 1 * E 1 3 * mnZ 5 E 8 1 + (-1) * E 1 0 * mnZ 5 E 8 8 := mn_st (k := 8)
  rw [h, mn_at 8 1 (by omega), mn_at 8 8 (by omega), t5_1, t5_8]
  unfold e2
  grind
theorem t5_10 : mnZ 5 E 10 10 = e2 E 1 3 := by
  have h : mnZ 5 E 10 10 = 0 + 1 * E 1 3 * mnZ 5 E 9 2 + (-1) * E 1 1 * mnZ 5 E 9 8 := mn_st (k := 9)
  rw [h, mn_at 9 2 (by omega), mn_at 9 8 (by omega), t5_2, t5_8]
  unfold e2
  grind
theorem t5_11 : mnZ 5 E 11 11 = e3 E 0 1 3 := by
  have h : mnZ 5 E 11 11 = 0 + 1 * E 2 3 * mnZ 5 E 10 3 + (-1) * E 2 1 * mnZ 5 E 10 9 + (-(-1)) * E 2 0 * mnZ 5 E 10 10 := mn_st (k := 10)
  rw [h, mn_at 10 3 (by omega), mn_at 10 9 (by omega), mn_at 10 10 (by omega), t5_3, t5_9, t5_10]
  unfold e3
  grind
theorem t5_12 : mnZ 5 E 12 12 = e2 E 2 3 := by
  have h : mnZ 5 E 12 12 = 0 + 1 * E 1 3 * mnZ 5 E 11 4 + (-1) * E 1 2 * mnZ 5 E 11 8 := mn_st (k := 11)
  rw [h, mn_at 11 4 (by omega), mn_at 11 8 (by omega), t5_4, t5_8]
  unfold e2
  grind
theorem t5_13 : mnZ 5 E 13 13 = e3 E 0 2 3 := by
  have h : mnZ 5 E 13 13 = 0 + 1 * E 2 3 * mnZ 5 E 12 5 + (-1) * E 2 2 * mnZ 5 E 12 9 + (-(-1)) * E 2 0 * mnZ 5 E 12 12 := mn_st (k := 12)
  rw [h, mn_at 12 5 (by omega), mn_at 12 9 (by omega), mn_at 12 12 (by omega), t5_5, t5_9, t5_12]
  unfold e3
  grind
theorem t5_14 : mnZ 5 E 14 14 = e3 E 1 2 3 := by
  have h : mnZ 5 E 14 14 = 0 + 1 * E 2 3 * mnZ 5 E 13 6 + (-1) * E 2 2 * mnZ 5 E 13 10 + (-(-1)) * E 2 1 * mnZ 5 E 13 12 := mn_st (k := 13)
  rw [h, mn_at 13 6 (by omega), mn_at 13 10 (by omega), mn_at 13 12 (by omega), t5_6, t5_10, t5_12]
  unfold e3
  grind
theorem t5_15 : mnZ 5 E 15 15 = e4 E 0 1 2 3 := by
  have h : mnZ 5 E 15 15 = 0 + 1 * E 3 3 * mnZ 5 E 14 7 + (-1) * E 3 2 * mnZ 5 E 14 11 + (-(-1)) * E 3 1 * mnZ 5 E 14 13 + (-(-(-1))) * E 3 0 * mnZ 5 E 14 14 := mn_st (k := 14)
  rw [h, mn_at 14 7 (by omega), mn_at 14 11 (by omega), mn_at 14 13 (by omega), mn_at 14 14 (by omega), t5_7, t5_11, t5_13, t5_14]
  unfold e4
  grind
theorem t5_16 : mnZ 5 E 16 16 = E 0 4 := by
  have h : mnZ 5 E 16 16 = 0 + 1 * E 0 4 * mnZ 5 E 15 0 := mn_st (k := 15)
  rw [h, mn_at 15 0 (by omega), mn_00]
  grind
theorem t5_17 : mnZ 5 E 17 17 = e2 E 0 4 := by
  have h : mnZ 5 E 17 17 = 0 + 1 * E 1 4 * mnZ 5 E 16 1 + (-1) * E 1 0 * mnZ 5 E 16 16 := mn_st (k := 16)
  rw [h, mn_at 16 1 (by omega), mn_at 16 16 (by omega), t5_1, t5_16]
  unfold e2
  grind
theorem t5_18 : mnZ 5 E 18 18 = e2 E 1 4 := by
  have h : mnZ 5 E 18 18 = 0 + 1 * E 1 4 * mnZ 5 E 17 2 + (-1) * E 1 1 * mnZ 5 E 17 16 := mn_st (k := 17)
  rw [h, mn_at 17 2 (by omega), mn_at 17 16 (by omega), t5_2, t5_16]
  unfold e2
  grind
theorem t5_19 : mnZ 5 E 19 19 = e3 E 0 1 4 := by
  have h : mnZ 5 E 19 19 = 0 + 1 * E 2 4 * mnZ 5 E 18 3 + (-1) * E 2 1 * mnZ 5 E 18 17 + (-(-1)) * E 2 0 * mnZ 5 E 18 18 := mn_st (k := 18)
  rw [h, mn_at 18 3 (by omega), mn_at 18 17 (by omega), mn_at 18 18 (by omega), t5_3, t5_17, t5_18]
  unfold e3
  grind
theorem t5_20 : mnZ 5 E 20 20 = e2 E 2 4 := by
  have h : mnZ 5 E 20 20 = 0 + 1 * E 1 4 * mnZ 5 E 19 4 + (-1) * E 1 2 * mnZ 5 E 19 16 := mn_st (k := 19)
  rw [h, mn_at 19 4 (by omega), mn_at 19 16 (by omega), t5_4, t5_16]
  unfold e2
  grind
theorem t5_21 : mnZ 5 E 21 21 = e3 E 0 2 4 := by
  have h : mnZ 5 E 21 21 = 0 + 1 * E 2 4 * mnZ 5 E 20 5 + (-1) * E 2 2 * mnZ 5 E 20 17 + (-(-1)) * E 2 0 * mnZ 5 E 20 20 := mn_st (k := 20)
  rw [h, mn_at 20 5 (by omega), mn_at 20 17 (by omega), mn_at 20 20 (by omega), t5_5, t5_17, t5_20]
  unfold e3
  grind
theorem t5_22 : mnZ 5 E 22 22 = e3 E 1 2 4 := by
  have h : mnZ 5 E 22 22 = 0 + 1 * E 2 4 * mnZ 5 E 21 6 + (-1) * E 2 2 * mnZ 5 E 21 18 + (-(-1)) * E 2 1 * mnZ 5 E 21 20 := mn_st (k := 21)
  rw [h, mn_at 21 6 (by omega), mn_at 21 18 (by omega), mn_at 21 20 (by omega), t5_6, t5_18, t5_20]
  unfold e3
  grind
theorem t5_23 : mnZ 5 E 23 23 = e4 E 0 1 2 4 := by
  have h : mnZ 5 E 23 23 = 0 + 1 * E 3 4 * mnZ 5 E 22 7 + (-1) * E 3 2 * mnZ 5 E 22 19 + (-(-1)) * E 3 1 * mnZ 5 E 22 21 + (-(-(-1))) * E 3 0 * mnZ 5 E 22 22 := mn_st (k := 22)
  rw [h, mn_at 22 7 (by omega), mn_at 22 19 (by omega), mn_at 22 21 (by omega), mn_at 22 22 (by omega), t5_7, t5_19, t5_21, t5_22]
  unfold e4
  grind
theorem t5_24 : mnZ 5 E 24 24 = e2 E 3 4 := by
  have h : mnZ 5 E 24 24 = 0 + 1 * E 1 4 * mnZ 5 E 23 8 + (-1) * E 1 3 * mnZ 5 E 23 16 := mn_st (k := 23)
  rw [h, mn_at 23 8 (by omega), mn_at 23 16 (by omega), t5_8, t5_16]
  unfold e2
  grind
theorem t5_25 : mnZ 5 E 25 25 = e3 E 0 3 4 := by
  have h : mnZ 5 E 25 25 = 0 + 1 * E 2 4 * mnZ 5 E 24 9 + (-1) * E 2 3 * mnZ 5 E 24 17 + (-(-1)) * E 2 0 * mnZ 5 E 24 24 := mn_st (k := 24)
  rw [h, mn_at 24 9 (by omega), mn_at 24 17 (by omega), mn_at 24 24 (by omega), t5_9, t5_17, t5_24]
  unfold e3
  grind
theorem t5_26 : mnZ 5 E 26 26 = e3 E 1 3 4 := by
  have h : mnZ 5 E 26 26 = 0 + 1 * E 2 4 * mnZ 5 E 25 10 + (-1) * E 2 3 * mnZ 5 E 25 18 + (-(-1)) * E 2 1 * mnZ 5 E 25 24 := mn_st (k := 25)
  rw [h, mn_at 25 10 (by omega), mn_at 25 18 (by omega), mn_at 25 24 (by omega), t5_10, t5_18, t5_24]
  unfold e3
  grind
theorem t5_27 : mnZ 5 E 27 27 = e4 E 0 1 3 4 := by
  have h : mnZ 5 E 27 27 = 0 + 1 * E 3 4 * mnZ 5 E 26 11 + (-1) * E 3 3 * mnZ 5 E 26 19 + (-(-1)) * E 3 1 * mnZ 5 E 26 25 + (-(-(-1))) * E 3 0 * mnZ 5 E 26 26 := mn_st (k := 26)
  rw [h, mn_at 26 11 (by omega), mn_at 26 19 (by omega), mn_at 26 25 (by omega), mn_at 26 26 (by omega), t5_11, t5_19, t5_25, t5_26]
  unfold e4
  grind
theorem t5_28 : mnZ 5 E 28 28 = e3 E 2 3 4 := by
  have h : mnZ 5 E 28 28 = 0 + 1 * E 2 4 * mnZ 5 E 27 12 + (-1) * E 2 3 * mnZ 5 E 27 20 + (-(-1)) * E 2 2 * mnZ 5 E 27 24 := mn_st (k := 27)
  rw [h, mn_at 27 12 (by omega), mn_at 27 20 (by omega), mn_at 27 24 (by omega), t5_12, t5_20, t5_24]
  unfold e3
  grind
theorem t5_29 : mnZ 5 E 29 29 = e4 E 0 2 3 4 := by
  have h : mnZ 5 E 29 29 = 0 + 1 * E 3 4 * mnZ 5 E 28 13 + (-1) * E 3 3 * mnZ 5 E 28 21 + (-(-1)) * E 3 2 * mnZ 5 E 28 25 + (-(-(-1))) * E 3 0 * mnZ 5 E 28 28 := mn_st (k := 28)
  rw [h, mn_at 28 13 (by omega), mn_at 28 21 (by omega), mn_at 28 25 (by omega), mn_at 28 28 (by omega), t5_13, t5_21, t5_25, t5_28]
  unfold e4
  grind
theorem t5_30 : mnZ 5 E 30 30 = e4 E 1 2 3 4 := by
  have h : mnZ 5 E 30 30 = 0 + 1 * E 3 4 * mnZ 5 E 29 14 + (-1) * E 3 3 * mnZ 5 E 29 22 + (-(-1)) * E 3 2 * mnZ 5 E 29 26 + (-(-(-1))) * E 3 1 * mnZ 5 E 29 28 := mn_st (k := 29)
  rw [h, mn_at 29 14 (by omega), mn_at 29 22 (by omega), mn_at 29 26 (by omega), mn_at 29 28 (by omega), t5_14, t5_22, t5_26, t5_28]
  unfold e4
  grind
theorem t5_31 : mnZ 5 E 31 31 = e5 E := by
  have h : mnZ 5 E 31 31 = 0 + 1 * E 4 4 * mnZ 5 E 30 15 + (-1) * E 4 3 * mnZ 5 E 30 23 + (-(-1)) * E 4 2 * mnZ 5 E 30 27 + (-(-(-1))) * E 4 1 * mnZ 5 E 30 29 + (-(-(-(-1)))) * E 4 0 * mnZ 5 E 30 30 := mn_st (k := 30)
  rw [h, mn_at 30 15 (by omega), mn_at 30 23 (by omega), mn_at 30 27 (by omega), mn_at 30 29 (by omega), mn_at 30 30 (by omega), t5_15, t5_23, t5_27, t5_29, t5_30]
  unfold e5
  grind
end DZ
theorem dt_4 {EZ : Nat → Nat → Int} : dtF 4 (fun r c => Int64.ofInt (EZ r c)) = Int64.ofInt (e4 EZ 0 1 2 3) := (mn_Z 15 15).trans (congrArg Int64.ofInt t4_15)
theorem dt_5 {EZ : Nat → Nat → Int} : dtF 5 (fun r c => Int64.ofInt (EZ r c)) = Int64.ofInt (e5 EZ) := (mn_Z 31 31).trans (congrArg Int64.ofInt t5_31)
