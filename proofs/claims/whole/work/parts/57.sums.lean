/-! Both sides' sums -/
theorem fc_or (lf rf : Nat → Int32) (r : Nat) (u : Int32) : fcF lf rf r u = -1 ∨ fcF lf rf r u = 0 ∨ fcF lf rf r u = 1 := by
  unfold fcF
  by_cases c : u = 4
  · rw [if_pos c]
    exact Or.inr (Or.inr rfl)
  · rw [if_neg c]
    exact sgF_or lf rf r (u + 1)
/-- k times c -/
def tmN : Nat → Int64 → Int64
  | 0, _ => 0
  | k + 1, c => c + tmN k c
theorem fold_c {c : Int64} : ∀ (k i : Nat) (a : Int64), foldN (fun a _ => a + c) k i a = a + tmN k c
  | 0, _, a => (Int64.add_zero a).symm
  | k + 1, i, a => by
    show foldN (fun a _ => a + c) k (i + 1) (a + c) = a + (c + tmN k c)
    rw [fold_c k (i + 1) (a + c), Int64.add_assoc]
theorem x_tm : ∀ t, t < 7 → tmN t (-1) = (-1 * nI t : Int32).toInt64 ∧ tmN t 0 = (0 * nI t : Int32).toInt64 ∧ tmN t 1 = (1 * nI t : Int32).toInt64 := by decide +kernel
theorem fg_tm {f g : Int32} {t : Nat} (hf : f = -1 ∨ f = 0 ∨ f = 1) (hg : g = -1 ∨ g = 0 ∨ g = 1) (ht : t ≤ 6) : (f * g * nI t).toInt64 = tmN t (f * g).toInt64 := by
  obtain ⟨h1, h2, h3⟩ := x_tm t (by omega)
  rcases hf with rfl | rfl | rfl <;> rcases hg with rfl | rfl | rfl
  · exact h3.symm
  · exact h2.symm
  · exact h1.symm
  · exact h2.symm
  · exact h2.symm
  · exact h2.symm
  · exact h1.symm
  · exact h2.symm
  · exact h3.symm
theorem hN_in {lf rf tf : Nat → Int32} {o : Nat → Nat → Bool} {n i p q : Nat} {acc : Int64} (v : vT n tf) (hi : i < n) (ho : ∀ k, k < tkF tf i → o i k = false) : foldN (hN o lf rf i p q) (tkF tf i) 0 acc = acc + wN lf rf i (tf i) p q := by
  obtain ⟨t1, t2⟩ := v.2 i hi
  have e : foldN (hN o lf rf i p q) (tkF tf i) 0 acc = foldN (fun a _ => a + (fcF lf rf i (nI p) * fcF lf rf i (nI q)).toInt64) (tkF tf i) 0 acc := by
    refine foldN_congr _ 0 acc (fun a j _ hj => ?_)
    unfold hN
    rw [ho j (by omega)]
    rfl
  rw [e, fold_c]
  unfold wN
  rw [t1, fg_tm (fc_or lf rf i (nI p)) (fc_or lf rf i (nI q)) t2]
theorem hN_out {lf rf tf : Nat → Int32} {o : Nat → Nat → Bool} {i p q : Nat} {acc : Int64} (ho : ∀ k, k < tkF tf i → o i k = true) : foldN (hN o lf rf i p q) (tkF tf i) 0 acc = acc := by
  have e : foldN (hN o lf rf i p q) (tkF tf i) 0 acc = foldN (fun a _ => a) (tkF tf i) 0 acc := by
    refine foldN_congr _ 0 acc (fun a j _ hj => ?_)
    unfold hN
    rw [ho j (by omega)]
    rfl
  have z : ∀ (k i : Nat) (a : Int64), foldN (fun (a : Int64) _ => a) k i a = a := by
    intro k
    induction k with
    | zero => exact fun _ _ => rfl
    | succ k ih => exact fun i a => ih (i + 1) a
  rw [e, z]
/-- nothing out: the same equations -/
theorem mN_gN {m : xM} {n : Nat} (v : vM m.df n) (hw : m.wr = -1) (p q : Nat) : mN m n p q = gN n (lD m.df) (rD m.df) (tD m.df) p q := by
  have hn := v.2.1
  unfold mN hNN gN
  refine foldN_congr n 0 0 (fun a i _ hi => ?_)
  refine hN_in v.2 (by omega) (fun k _ => ?_)
  unfold ouF
  rw [hw]
  exact decide_eq_false (fun z => nI_m1 (show i ≤ 1000 by omega) z.1)
theorem fold_sh {x : Nat → Int64} {c : Int64} : ∀ (k i : Nat) (a : Int64), foldN (fun a j => a + x j) k i (a + c) = foldN (fun a j => a + x j) k i a + c
  | 0, _, _ => rfl
  | k + 1, i, a => by
    show foldN (fun a j => a + x j) k (i + 1) (a + c + x i) = foldN (fun a j => a + x j) k (i + 1) (a + x i) + c
    rw [← fold_sh k (i + 1) (a + x i), Int64.add_assoc, Int64.add_comm c, ← Int64.add_assoc]
theorem fold_sk0 {x : Nat → Int64} {r : Nat} (k i : Nat) (a : Int64) (h : r < i) : foldN (fun a j => if j = r then a else a + x j) k i a = foldN (fun a j => a + x j) k i a :=
  foldN_congr k i a (fun a j h1 _ => if_neg (by omega))
theorem fold_sk {x : Nat → Int64} {r : Nat} : ∀ (k i : Nat) (a : Int64), i ≤ r → r < i + k → foldN (fun a j => if j = r then a else a + x j) k i a + x r = foldN (fun a j => a + x j) k i a
  | 0, i, a, h1, h2 => by omega
  | k + 1, i, a, h1, h2 => by
    show foldN (fun a j => if j = r then a else a + x j) k (i + 1) (if i = r then a else a + x i) + x r = foldN (fun a j => a + x j) k (i + 1) (a + x i)
    by_cases c : i = r
    · rw [if_pos c, fold_sk0 k (i + 1) a (by omega), ← c, fold_sh]
    · rw [if_neg c]
      exact fold_sk k (i + 1) (a + x i) (by omega) (by omega)
/-- a row out: the class' equations without the row -/
theorem mN_gNx {m : xM} {n r : Nat} (v : vM m.df n) (hwd : m.wd = -1) (hr : r < n) (p q : Nat) : mN (m.s_wr (nI r)) n p q = gNx n (lD m.df) (rD m.df) (tD m.df) r p q := by
  have hn := v.2.1
  obtain ⟨t1, t2⟩ := v.2.2 r hr
  have e : mN (m.s_wr (nI r)) n p q = foldN (fun a i => if i = r then a else a + wN (lD m.df) (rD m.df) i (tD m.df i) p q) n 0 0 := by
    unfold mN hNN
    rw [s_wr_df]
    refine foldN_congr n 0 0 (fun a i _ hi => ?_)
    by_cases c : i = r
    · rw [if_pos c]
      refine hN_out (fun k _ => ?_)
      unfold ouF
      rw [s_wr_wr, s_wr_wd, hwd, c]
      exact decide_eq_true ⟨rfl, Or.inl rfl⟩
    · rw [if_neg c]
      refine hN_in v.2 (by omega) (fun k _ => ?_)
      unfold ouF
      rw [s_wr_wr]
      refine decide_eq_false (fun z => c ?_)
      exact (nI_eq' (by omega) (by omega)).mp z.1
  have s := fold_sk (x := fun i => wN (lD m.df) (rD m.df) i (tD m.df i) p q) (r := r) n 0 0 (Nat.zero_le _) (by omega)
  have g : gN n (lD m.df) (rD m.df) (tD m.df) p q = foldN (fun a j => a + wN (lD m.df) (rD m.df) j (tD m.df j) p q) n 0 0 := rfl
  have z : wN (lD m.df) (rD m.df) r (tD m.df r) p q + wN (lD m.df) (rD m.df) r (-tD m.df r) p q = 0 := by
    unfold wN
    rw [t1]
    have d : ∀ t, t < 7 → (-1 * nI t : Int32).toInt64 + (-1 * -nI t : Int32).toInt64 = 0 ∧ (0 * nI t : Int32).toInt64 + (0 * -nI t : Int32).toInt64 = 0 ∧ (1 * nI t : Int32).toInt64 + (1 * -nI t : Int32).toInt64 = 0 := by decide +kernel
    obtain ⟨d1, d2, d3⟩ := d (tkF (tD m.df) r) (by omega)
    rcases fc_or (lD m.df) (rD m.df) r (nI p) with e1 | e1 | e1 <;> rcases fc_or (lD m.df) (rD m.df) r (nI q) with e2 | e2 | e2 <;> rw [e1, e2]
    · exact d3
    · exact d2
    · exact d1
    · exact d2
    · exact d2
    · exact d2
    · exact d1
    · exact d2
    · exact d3
  unfold gNx
  rw [e, g, ← s, Int64.add_assoc, z, Int64.add_zero]
