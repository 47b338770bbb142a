theorem x_t1 : ∀ t, t < 7 → (nI (t + 1)).toInt64 = (nI t).toInt64 + 1 := by decide +kernel
theorem tm_mul {c : Int64} : ∀ t, t ≤ 6 → tmN t c = (nI t).toInt64 * c
  | 0, _ => by
    show (0 : Int64) = (nI 0).toInt64 * c
    rw [show (nI 0).toInt64 = 0 from rfl, Int64.zero_mul]
  | t + 1, h => by
    show c + tmN t c = (nI (t + 1)).toInt64 * c
    rw [tm_mul t (by omega), x_t1 t (by omega), Int64.add_mul, Int64.one_mul, Int64.add_comm]
theorem fold_f {x : Nat → Int64} {F c : Int64} : ∀ (k j : Nat) (a : Int64), foldN (fun a j => a + F * (x j - c)) k j a = a + F * (foldN (fun a j => a + x j) k j 0 - tmN k c)
  | 0, _, a => by
    show a = a + F * (0 - 0)
    rw [Int64.sub_self, Int64.mul_zero, Int64.add_zero]
  | k + 1, j, a => by
    show foldN (fun a j => a + F * (x j - c)) k (j + 1) (a + F * (x j - c)) = a + F * (foldN (fun a j => a + x j) k (j + 1) (0 + x j) - (c + tmN k c))
    rw [fold_f k (j + 1), fold_sh]
    generalize foldN (fun a j => a + x j) k (j + 1) 0 = S
    generalize tmN k c = T
    generalize x j = y
    grind
theorem hS_in {s : Int32} {lf rf tf mf : Nat → Int32} {o : Nat → Nat → Bool} {n i p : Nat} {acc : Int64} (v : vT n tf) (r : vR n tf mf) (hi : i < n) (ho : ∀ k, k < tkF tf i → o i k = false) : foldN (hS s o lf rf mf i p) (tkF tf i) 0 acc = acc + wS s lf rf i (tf i) (smF mf (tkF tf i) i) p := by
  obtain ⟨t1, t2⟩ := v.2 i hi
  have e : foldN (hS s o lf rf mf i p) (tkF tf i) 0 acc = foldN (fun a k => a + (fcF lf rf i (nI p)).toInt64 * ((mf (6 * i + k)).toInt64 - (sgF lf rf i 0).toInt64 * s.toInt64)) (tkF tf i) 0 acc := by
    refine foldN_congr _ 0 acc (fun a j _ hj => ?_)
    unfold hS
    rw [ho j (by omega)]
    rfl
  rw [e, fold_f (x := fun k => (mf (6 * i + k)).toInt64), (sm_L v r hi).1, tm_mul _ t2, ← t1]
  unfold wS
  rw [Int64.mul_assoc]
theorem hS_out {s : Int32} {lf rf tf mf : Nat → Int32} {o : Nat → Nat → Bool} {i p : Nat} {acc : Int64} (ho : ∀ k, k < tkF tf i → o i k = true) : foldN (hS s o lf rf mf i p) (tkF tf i) 0 acc = acc := by
  have e : foldN (hS s o lf rf mf i p) (tkF tf i) 0 acc = foldN (fun a _ => a) (tkF tf i) 0 acc := by
    refine foldN_congr _ 0 acc (fun a j _ hj => ?_)
    unfold hS
    rw [ho j (by omega)]
    rfl
  have z : ∀ (k i : Nat) (a : Int64), foldN (fun (a : Int64) _ => a) k i a = a := by
    intro k
    induction k with
    | zero => exact fun _ _ => rfl
    | succ k ih => exact fun i a => ih (i + 1) a
  rw [e, z]
/-- nothing out: the same sums -/
theorem mS_gS {m : xM} {n : Nat} (v : vM m.df n) (r : vR n (tD m.df) (mD m.df)) (hw : m.wr = -1) (p : Nat) : mS m n p = gS n (m.df 0) (lD m.df) (rD m.df) (tD m.df) (mD m.df) p := by
  have hn := v.2.1
  unfold mS hSS gS
  refine foldN_congr n 0 0 (fun a i _ hi => ?_)
  refine hS_in v.2 r (by omega) (fun k _ => ?_)
  unfold ouF
  rw [hw]
  exact decide_eq_false (fun z => nI_m1 (show i ≤ 1000 by omega) z.1)
