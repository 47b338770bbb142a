theorem fold_rw {x y : Nat → Int64} {r : Nat} {e : Int64} (h : ∀ j, j ≠ r → y j = x j) (hr : x r + e = y r) : ∀ (k i : Nat) (a : Int64), i ≤ r → r < i + k → foldN (fun a j => a + y j) k i a = foldN (fun a j => a + x j) k i a + e := by
  intro k i a h1 h2
  rw [← fold_sk (x := y) k i a h1 h2, ← fold_sk (x := x) k i a h1 h2, ← hr, Int64.add_assoc]
  have : foldN (fun a j => if j = r then a else a + y j) k i a = foldN (fun a j => if j = r then a else a + x j) k i a := by
    refine foldN_congr k i a (fun a j _ _ => ?_)
    by_cases c : j = r
    · rw [if_pos c, if_pos c]
    · rw [if_neg c, if_neg c, h j c]
  rw [this]
theorem fold_ad {g : Int64 → Nat → Int64} {y : Nat → Int64} {k i : Nat} {a : Int64} (h : ∀ a j, i ≤ j → j < i + k → g a j = a + y j) : foldN g k i a = foldN (fun a j => a + y j) k i a := foldN_congr k i a h
theorem ou_1 {m : xM} {r k i j : Nat} (hr : r ≤ 1000) (hi : i ≤ 1000) (hj : j ≤ 1000) (hk : k ≤ 1000) : ouF (m1o m r k) i j = decide (i = r ∧ j = k) := by
  unfold ouF
  rw [s_wd_wr, s_wr_wr, s_wd_wd]
  refine decide_eq_decide.mpr ⟨fun z => ?_, fun z => ?_⟩
  · refine ⟨(nI_eq' hi hr).mp z.1, ?_⟩
    rcases z.2 with q | q
    · exact absurd q (nI_m1 hk)
    · exact ((nI_eq' hk hj).mp q).symm
  · exact ⟨(nI_eq' hi hr).mpr z.1, Or.inr ((nI_eq' hk hj).mpr z.2.symm)⟩
theorem fg_m1 {f g : Int32} (hf : f = -1 ∨ f = 0 ∨ f = 1) (hg : g = -1 ∨ g = 0 ∨ g = 1) : (f * g * (-1)).toInt64 + (f * g).toInt64 = 0 := by
  rcases hf with rfl | rfl | rfl <;> rcases hg with rfl | rfl | rfl <;> decide
/-- a reading out: the class' equations without the reading -/
theorem mN_gN1 {m : xM} {n r k : Nat} (v : vM m.df n) (hr : r < n) (hk : k < tkF (tD m.df) r) (p q : Nat) : mN (m1o m r k) n p q = gN1 n (lD m.df) (rD m.df) (tD m.df) r p q := by
  have hn := v.2.1
  obtain ⟨t1, t2⟩ := v.2.2 r hr
  have h9 : ∀ i, i < n → tkF (tD m.df) i ≤ 6 := fun i hi => (v.2.2 i hi).2
  unfold mN hNN
  rw [s_wd_df, s_wr_df]
  rw [fold_ad (y := fun i => if i = r then wN (lD m.df) (rD m.df) i (tD m.df i) p q + wN (lD m.df) (rD m.df) r (-1) p q else wN (lD m.df) (rD m.df) i (tD m.df i) p q) (fun a i _ hi => ?_)]
  · exact fold_rw (x := fun i => wN (lD m.df) (rD m.df) i (tD m.df i) p q) (y := fun i => if i = r then wN (lD m.df) (rD m.df) i (tD m.df i) p q + wN (lD m.df) (rD m.df) r (-1) p q else wN (lD m.df) (rD m.df) i (tD m.df i) p q) (r := r) (e := wN (lD m.df) (rD m.df) r (-1) p q) (fun j hj => if_neg hj) (if_pos rfl).symm n 0 0 (Nat.zero_le _) (by omega)
  · have hi : i < n := by omega
    have h6 := h9 i hi
    by_cases c : i = r
    · subst c
      simp only [if_true]
      have e : foldN (hN (ouF (m1o m i k)) (lD m.df) (rD m.df) i p q) (tkF (tD m.df) i) 0 a = foldN (fun a j => if j = k then a else a + (fcF (lD m.df) (rD m.df) i (nI p) * fcF (lD m.df) (rD m.df) i (nI q)).toInt64) (tkF (tD m.df) i) 0 a := by
        refine foldN_congr _ 0 a (fun a j _ hj => ?_)
        unfold hN
        rw [ou_1 (by omega) (by omega) (by omega) (by omega)]
        by_cases ck : j = k
        · rw [if_pos (decide_eq_true ⟨rfl, ck⟩), if_pos ck]
        · rw [if_neg (by simp [ck]), if_neg ck]
      have s := fold_sk (x := fun _ => (fcF (lD m.df) (rD m.df) i (nI p) * fcF (lD m.df) (rD m.df) i (nI q)).toInt64) (r := k) (tkF (tD m.df) i) 0 a (Nat.zero_le _) (by omega)
      rw [fold_c] at s
      have z := fg_m1 (fc_or (lD m.df) (rD m.df) i (nI p)) (fc_or (lD m.df) (rD m.df) i (nI q))
      have w1 : wN (lD m.df) (rD m.df) i (tD m.df i) p q = tmN (tkF (tD m.df) i) (fcF (lD m.df) (rD m.df) i (nI p) * fcF (lD m.df) (rD m.df) i (nI q)).toInt64 := by
        unfold wN
        rw [t1, fg_tm (fc_or _ _ i (nI p)) (fc_or _ _ i (nI q)) t2]
      have w2 : wN (lD m.df) (rD m.df) i (-1) p q = (fcF (lD m.df) (rD m.df) i (nI p) * fcF (lD m.df) (rD m.df) i (nI q) * (-1)).toInt64 := rfl
      rw [e, w1, w2]
      generalize foldN (fun a j => if j = k then a else a + (fcF (lD m.df) (rD m.df) i (nI p) * fcF (lD m.df) (rD m.df) i (nI q)).toInt64) (tkF (tD m.df) i) 0 a = A at s ⊢
      generalize (fcF (lD m.df) (rD m.df) i (nI p) * fcF (lD m.df) (rD m.df) i (nI q) * (-1)).toInt64 = B at z ⊢
      generalize (fcF (lD m.df) (rD m.df) i (nI p) * fcF (lD m.df) (rD m.df) i (nI q)).toInt64 = C at s z ⊢
      generalize tmN (tkF (tD m.df) i) C = T at s ⊢
      grind
    · rw [if_neg c]
      refine hN_in v.2 hi (fun j hj => ?_)
      rw [ou_1 (by omega) (by omega) (by omega) (by omega)]
      exact decide_eq_false (fun z => c z.1)
