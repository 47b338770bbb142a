/-! what the fractions need -/
def okF (d : DD) (U : Nat) : Prop := (¬ deD d U = 0 → 0 < (deD d U).toInt) ∧ (∀ a, a < U → (nuD d U a).toInt ≠ -9223372036854775808) ∧ (∀ i j, i < dn d → j < tkF (dt d) i → (rsD d U i j).toInt ≠ -9223372036854775808) ∧ (∀ a, hA a → (blD d U a).toInt ≠ -9223372036854775808) ∧ (∀ i j, i < dn d → j < tkF (dt d) i → (¬ deO d U i = 0 → 0 < (deO d U i).toInt) ∧ ∀ z, z < U → (nuO d U i j z).toInt ≠ -9223372036854775808) ∧ (∀ i j, i < dn d → j < dn d → (mnF (dt d) (dm d) i j).toInt ≠ -9223372036854775808)
theorem prt_0 {t : Int32} {d : Int64} (hd : 0 < d.toInt) : prt t 0 d = prt t 0 1 := by
  have e1 : cdF d 0 = d := by
    have h := cd_gcd (d := d) (x := 0) hd (by decide)
    rw [show (0 : Int64).toInt = 0 from rfl, Int.gcd_zero_right] at h
    refine Int64.toInt_inj.mp ?_
    rw [h]
    omega
  have e2 : cdF 1 0 = 1 := by
    have h := cd_gcd (d := 1) (x := 0) (by decide) (by decide)
    refine Int64.toInt_inj.mp ?_
    rw [h]
    rfl
  have hd0 : d ≠ 0 := fun q => by rw [q] at hd; exact absurd hd (by decide)
  unfold prt
  rw [e1, e2]
  by_cases c : t = 0
  · rw [if_pos c, if_pos c]
    refine Int64.toInt_inj.mp ?_
    rw [Int64.toInt_div]
    simp
  · rw [if_neg c, if_neg c]
    refine Int64.toInt_inj.mp ?_
    rw [Int64.toInt_div, Int.tdiv_self (by omega)]
    rfl
