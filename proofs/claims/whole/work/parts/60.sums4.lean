theorem i32_neg {a : Int32} (ha : -1000000000 ≤ a.toInt ∧ a.toInt ≤ 1000000000) : (-a).toInt64 = -a.toInt64 := by
  refine Int64.toInt_inj.mp ?_
  have h : (-a).toInt = -a.toInt := by
    rw [Int32.toInt_neg, Int.bmod_def]
    omega
  rw [Int32.toInt_toInt64, Int64.toInt_neg, Int32.toInt_toInt64, h, Int.bmod_def]
  omega
/-- a reading out: the class' sums without the reading -/
theorem mS_gS1 {m : xM} {n r k : Nat} (v : vM m.df n) (rg : vR n (tD m.df) (mD m.df)) (hr : r < n) (hk : k < tkF (tD m.df) r) (p : Nat) : mS (m1o m r k) n p = gS1 n (m.df 0) (lD m.df) (rD m.df) (tD m.df) (mD m.df) r k p := by
  have hn := v.2.1
  obtain ⟨t1, t2⟩ := v.2.2 r hr
  have h9 : ∀ i, i < n → tkF (tD m.df) i ≤ 6 := fun i hi => (v.2.2 i hi).2
  unfold mS hSS
  rw [s_wd_df, s_wr_df]
  rw [fold_ad (y := fun i => if i = r then wS (m.df 0) (lD m.df) (rD m.df) i (tD m.df i) (smF (mD m.df) (tkF (tD m.df) i) i) p + wS (m.df 0) (lD m.df) (rD m.df) r (-1) (-mD m.df (6 * r + k)) p else wS (m.df 0) (lD m.df) (rD m.df) i (tD m.df i) (smF (mD m.df) (tkF (tD m.df) i) i) p) (fun a i _ hi => ?_)]
  · exact fold_rw (x := fun i => wS (m.df 0) (lD m.df) (rD m.df) i (tD m.df i) (smF (mD m.df) (tkF (tD m.df) i) i) p) (y := fun i => if i = r then wS (m.df 0) (lD m.df) (rD m.df) i (tD m.df i) (smF (mD m.df) (tkF (tD m.df) i) i) p + wS (m.df 0) (lD m.df) (rD m.df) r (-1) (-mD m.df (6 * r + k)) p else wS (m.df 0) (lD m.df) (rD m.df) i (tD m.df i) (smF (mD m.df) (tkF (tD m.df) i) i) p) (r := r) (e := wS (m.df 0) (lD m.df) (rD m.df) r (-1) (-mD m.df (6 * r + k)) p) (fun j hj => if_neg hj) (if_pos rfl).symm n 0 0 (Nat.zero_le _) (by omega)
  · have hi : i < n := by omega
    have h6 := h9 i hi
    by_cases c : i = r
    · subst c
      simp only [if_true]
      have e : foldN (hS (m.df 0) (ouF (m1o m i k)) (lD m.df) (rD m.df) (mD m.df) i p) (tkF (tD m.df) i) 0 a = foldN (fun a j => if j = k then a else a + (fcF (lD m.df) (rD m.df) i (nI p)).toInt64 * ((mD m.df (6 * i + j)).toInt64 - (sgF (lD m.df) (rD m.df) i 0).toInt64 * (m.df 0).toInt64)) (tkF (tD m.df) i) 0 a := by
        refine foldN_congr _ 0 a (fun a j _ hj => ?_)
        unfold hS
        rw [ou_1 (by omega) (by omega) (by omega) (by omega)]
        by_cases ck : j = k
        · rw [if_pos (decide_eq_true ⟨rfl, ck⟩), if_pos ck]
        · rw [if_neg (by simp [ck]), if_neg ck]
      have s := fold_sk (x := fun j => (fcF (lD m.df) (rD m.df) i (nI p)).toInt64 * ((mD m.df (6 * i + j)).toInt64 - (sgF (lD m.df) (rD m.df) i 0).toInt64 * (m.df 0).toInt64)) (r := k) (tkF (tD m.df) i) 0 a (Nat.zero_le _) (by omega)
      rw [fold_f (x := fun j => (mD m.df (6 * i + j)).toInt64), (sm_L v.2 rg hi).1, tm_mul _ t2, ← t1] at s
      have b1 := rg i hi k hk
      have z := i32_neg (a := mD m.df (6 * i + k)) (by omega)
      have m1 : (-1 : Int32).toInt64 = -1 := by decide
      rw [e]
      unfold wS
      rw [z, m1]
      generalize foldN (fun a j => if j = k then a else a + (fcF (lD m.df) (rD m.df) i (nI p)).toInt64 * ((mD m.df (6 * i + j)).toInt64 - (sgF (lD m.df) (rD m.df) i 0).toInt64 * (m.df 0).toInt64)) (tkF (tD m.df) i) 0 a = A at s ⊢
      generalize (fcF (lD m.df) (rD m.df) i (nI p)).toInt64 = F at s ⊢
      generalize (sgF (lD m.df) (rD m.df) i 0).toInt64 = G at s ⊢
      generalize (mD m.df (6 * i + k)).toInt64 = X at s ⊢
      generalize (m.df 0).toInt64 = Y at s ⊢
      generalize (tD m.df i).toInt64 = T at s ⊢
      generalize (smF (mD m.df) (tkF (tD m.df) i) i).toInt64 = Z at s ⊢
      grind
    · rw [if_neg c]
      refine hS_in v.2 rg hi (fun j hj => ?_)
      rw [ou_1 (by omega) (by omega) (by omega) (by omega)]
      exact decide_eq_false (fun z => c z.1)
