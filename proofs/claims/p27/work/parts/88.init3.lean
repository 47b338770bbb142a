section CJ
variable {b o : Nat} {w : xW} {Q : Option Value → xW → Prop}
/-- a grid of 5 by 5 -/
def grW (w : xW) : xW := x_rows (x_new w (.inl (4, 5, .inr (.inr (.inr (.inr (fun i => if i < 5 then some (w.1 + 1 + i) else none))))))) 5 5
theorem grw_1 : (grW w).1 = w.1 + 6 := rfl
theorem grw_2 : (grW w).2.2 = w.2.2 := rfl
theorem grw_rd {k : Nat} : rd (grW w) k = if k = w.1 + 5 then .inl (1, 5, .inr (.inl (fun _ => 0))) else if k = w.1 + 4 then .inl (1, 5, .inr (.inl (fun _ => 0))) else if k = w.1 + 3 then .inl (1, 5, .inr (.inl (fun _ => 0))) else if k = w.1 + 2 then .inl (1, 5, .inr (.inl (fun _ => 0))) else if k = w.1 + 1 then .inl (1, 5, .inr (.inl (fun _ => 0))) else if k = w.1 then .inl (4, 5, .inr (.inr (.inr (.inr (fun i => if i < 5 then some (w.1 + 1 + i) else none))))) else rd w k := rfl
theorem grw_ok (h : okW w) (h1 : w.1 + 6 < 1000) : okW (grW w) := by
  refine ⟨fun k hk => ?_, h1⟩
  rw [grw_1] at hk ⊢
  show x_wfc (w.1 + 6) (rd (grW w) k) = true
  rw [grw_rd]
  split
  · rfl
  · split
    · rfl
    · split
      · rfl
      · split
        · rfl
        · split
          · rfl
          · split
            · simp only [x_wfc, List.all_eq_true, List.mem_range]
              intro j hj
              rw [if_pos hj]
              simp only [decide_eq_true_eq]
              omega
            · exact wfc_up (wfc_up (wfc_up (wfc_up (wfc_up (wfc_up (h.1 k (by omega)))))))
theorem c30 (hb : w.1 = o + 1) (ok : okW w) (h : o + 20 < 1000) (hr : rd w o = .inr (2, x_df 2)) (K : ∀ w2, w2.1 = o + 10 → okW w2 → w2.2.2 = w.2.2 → (∃ N, isS w2 o 0 0 N z64 z64 z64) → (∀ j, j < o → rd w2 j = rd w j) → Q none w2) : Wp 30 w.1 0 [.ref o] [] w Q := by
  rw [x_df2] at hr
  have mc : m_mc 30 = 9 := by decide
  have l1 : ∀ w2 : xW, w.1 ≤ w2.1 → [Value.ref o].all (x_wfv w2.1) = true := fun w2 h2 => by
    simp only [List.all_cons, List.all_nil, Bool.and_true]
    exact wfv_ref (by omega)
  have n5 : ¬ (5 : Int32) < 0 := by decide
  have k5 : (5 : Int32).toNatClampNeg = 5 := by decide
  have n32 : ¬ (32 : Int32) < 0 := by decide
  have k32 : (32 : Int32).toNatClampNeg = 32 := by decide
  simp only [q30_0, q30_1, q30_4, q30_5, q30_6]
  rw [Wp_newG (idx := 9) (by decide +kernel) rfl (by rw [mc, k5]; omega) (wf_of ok (l1 w (by omega)) (l1 w (by omega))) n5 (by rw [k5]; omega) n5 (by rw [k5]; omega), k5]
  show Wp 30 w.1 11 [.ref o] [.ref w.1, .ref o] (grW w) Q
  have g0 : rd (grW w) o = .inr (2, [.null, .null, .null, .null, .int 0, .long 0]) := by
    rw [grw_rd, if_neg (by omega), if_neg (by omega), if_neg (by omega), if_neg (by omega), if_neg (by omega), if_neg (by omega)]
    exact hr
  have gok := grw_ok ok (by omega)
  rw [Wp_putff (idx := 11) (ci := 2) (k := 0) (kd := 2) (by decide +kernel) rfl rfl rfl ⟨by decide, by decide⟩, g0, pF0]
  have ok1 : okW (wr (grW w) o (.inr (2, [.ref w.1, .null, .null, .null, .int 0, .long 0]))) := gok.wr (by
    simp only [x_wfc, List.all_cons, List.all_nil, Bool.and_true, Bool.and_eq_true]
    exact ⟨wfv_ref (by rw [grw_1]; omega), rfl, rfl, rfl, rfl, rfl⟩)
  have q1 : rd (wr (grW w) o (.inr (2, [.ref w.1, .null, .null, .null, .int 0, .long 0]))) (o + 1) = .inl (4, 5, .inr (.inr (.inr (.inr (fun i => if i < 5 then some (w.1 + 1 + i) else none))))) := by
    rw [rd_n (by omega), grw_rd, if_neg (by omega), if_neg (by omega), if_neg (by omega), if_neg (by omega), if_neg (by omega), if_pos (by omega)]
  have q2 : ∀ i, i < 5 → rd (wr (grW w) o (.inr (2, [.ref w.1, .null, .null, .null, .int 0, .long 0]))) (o + 2 + i) = .inl (1, 5, .inr (.inl z64)) := by
    intro i hi
    rw [rd_n (by omega), grw_rd]
    rcases (show i = 0 ∨ i = 1 ∨ i = 2 ∨ i = 3 ∨ i = 4 by omega) with rfl | rfl | rfl | rfl | rfl
    · rw [if_neg (by omega), if_neg (by omega), if_neg (by omega), if_neg (by omega), if_pos (by omega)]
      rfl
    · rw [if_neg (by omega), if_neg (by omega), if_neg (by omega), if_pos (by omega)]
      rfl
    · rw [if_neg (by omega), if_neg (by omega), if_pos (by omega)]
      rfl
    · rw [if_neg (by omega), if_pos (by omega)]
      rfl
    · rw [if_pos (by omega)]
      rfl
  have q3 : ∀ j, j < o → rd (wr (grW w) o (.inr (2, [.ref w.1, .null, .null, .null, .int 0, .long 0]))) j = rd w j := by
    intro j hj
    rw [rd_n (by omega), grw_rd, if_neg (by omega), if_neg (by omega), if_neg (by omega), if_neg (by omega), if_neg (by omega), if_neg (by omega)]
  have r1 : rd (wr (grW w) o (.inr (2, [.ref w.1, .null, .null, .null, .int 0, .long 0]))) o = .inr (2, [.ref w.1, .null, .null, .null, .int 0, .long 0]) := rd_s
  have b1 : (wr (grW w) o (.inr (2, [.ref w.1, .null, .null, .null, .int 0, .long 0]))).1 = o + 7 := by
    show w.1 + 6 = o + 7
    omega
  have s1 : (wr (grW w) o (.inr (2, [.ref w.1, .null, .null, .null, .int 0, .long 0]))).2.2 = w.2.2 := rfl
  generalize wr (grW w) o (.inr (2, [.ref w.1, .null, .null, .null, .int 0, .long 0])) = w1 at ok1 q1 q2 q3 r1 b1 s1
  show Wp 30 _ 14 [.ref o] [] w1 Q
  refine st_A (c := .inl (1, 5, .inr (.inl (fun _ => 0)))) (pc2 := 18) (idx := 16) (ci := 2) (k := 1) (by
    simp only [q30_14, q30_15]
    rw [Wp_newL (by decide +kernel) (by rw [mc]; omega) (wf_of ok1 (l1 w1 (by omega)) (by simp only [List.all_cons, List.all_nil, Bool.and_true]; exact wfv_ref (by omega))) n5 (by rw [k5]; omega), k5]) (by decide +kernel) rfl rfl ⟨by decide, by decide⟩ ok1 (by omega) rfl (by omega) r1 (Nat.le_of_ble_eq_true rfl) (fun w2 b2 ok2 s2 a2 r2 f2 => ?_)
  show Wp 30 _ 21 [.ref o] [] w2 Q
  refine st_A (c := .inl (1, 32, .inr (.inl (fun _ => 0)))) (pc2 := 26) (idx := 20) (ci := 2) (k := 2) (by
    simp only [q30_21, q30_22]
    rw [Wp_newL (by decide +kernel) (by rw [mc]; omega) (wf_of ok2 (l1 w2 (by omega)) (by simp only [List.all_cons, List.all_nil, Bool.and_true]; exact wfv_ref (by omega))) n32 (by rw [k32]; omega), k32]) (by decide +kernel) rfl rfl ⟨by decide, by decide⟩ ok2 (by omega) rfl (by omega) r2 (Nat.le_of_ble_eq_true rfl) (fun w3 b3 ok3 s3 a3 r3 f3 => ?_)
  show Wp 30 _ 29 [.ref o] [] w3 Q
  refine st_A (c := .inl (1, 5, .inr (.inl (fun _ => 0)))) (pc2 := 33) (idx := 23) (ci := 2) (k := 3) (by
    simp only [q30_29, q30_30]
    rw [Wp_newL (by decide +kernel) (by rw [mc]; omega) (wf_of ok3 (l1 w3 (by omega)) (by simp only [List.all_cons, List.all_nil, Bool.and_true]; exact wfv_ref (by omega))) n5 (by rw [k5]; omega), k5]) (by decide +kernel) rfl rfl ⟨by decide, by decide⟩ ok3 (by omega) rfl (by omega) r3 (Nat.le_of_ble_eq_true rfl) (fun w4 b4 ok4 s4 a4 r4 f4 => ?_)
  rw [Wp_retI (by decide +kernel) rfl (by rw [mc]; omega)]
  have e1 : w1.1 = o + 7 := b1
  have e2 : w2.1 = o + 8 := by omega
  have e3 : w3.1 = o + 9 := by omega
  rw [e1] at a2 r2 r3 r4 f2
  rw [e2] at a3 r3 r4 f3
  rw [e3] at a4 r4 f4
  rw [hb] at r4 q1
  have g : ∀ j, j < o + 7 → j ≠ o → rd w4 j = rd w1 j := fun j h1 h2 => by rw [f4 j h2 (by omega), f3 j h2 (by omega), f2 j h2 (by omega)]
  refine K w4 (by omega) ok4 (s4.trans (s3.trans (s2.trans s1))) ⟨fun _ => z64, r4, ⟨_, (g (o + 1) (by omega) (by omega)).trans q1, fun i hi => ?_⟩, fun i hi => (g (o + 2 + i) (by omega) (by omega)).trans (q2 i hi), ?_, ?_, a4⟩ (fun j hj => (g j (by omega) (by omega)).trans (q3 j hj))
  · rw [if_pos hi]
  · rw [f4 _ (by omega) (by omega), f3 _ (by omega) (by omega)]
    exact a2
  · rw [f4 _ (by omega) (by omega)]
    exact a3
theorem l26 {bb : Nat} (hbb : bb = o + 1) (h : o + 40 < 1000) : ∀ (k i : Nat) (w : xW), i + k = 5 → w.1 = o + 2 + 5 * i → okW w → rd w o = .inr (1, [.ref (o + 1), .int (nI 0)]) → (∃ kf : Nat → Option Nat, rd w (o + 1) = .inl (3, 5, .inr (.inr (.inr (.inr kf)))) ∧ ∀ j, j < i → kf j = some (o + 2 + 5 * j)) → (∀ j, j < i → isDD w (o + 2 + 5 * j) d00) → (∀ w2, w2.1 = o + 27 → okW w2 → w2.2.2 = w.2.2 → isH w2 o 0 (fun j => o + 2 + 5 * j) → (∀ j, j < 5 → isDD w2 (o + 2 + 5 * j) d00) → (∀ j, j < o → rd w2 j = rd w j) → Q none w2) → Wp 26 bb 14 [.ref o, .int (nI i)] [] w Q := by
  have mc : m_mc 26 = 26 := by decide
  have mc0 : m_mc 0 = 4 := by decide
  intro k
  induction k with
  | zero =>
    intro i w hi hb ok r0 hk hd K
    have e : i = 5 := by omega
    subst e
    obtain ⟨kf, r1, h1⟩ := hk
    have hc : (5 : Int32) ≤ nI 5 := by decide
    simp only [q26_14, q26_15, q26_16, if_pos hc]
    rw [Wp_retI (by decide +kernel) rfl (by rw [mc]; omega)]
    exact K w (by omega) ok rfl ⟨r0, kf, r1, h1⟩ hd (fun _ _ => rfl)
  | succ k ih =>
    intro i w hi hb ok r0 hk hd K
    obtain ⟨kf, r1, h1⟩ := hk
    have hc : ¬ (5 : Int32) ≤ nI i := by rw [show (5 : Int32) = nI 5 from rfl, nI_le' (by omega) (by omega)]; omega
    have hx : x_pl (nI i) 5 := x_pl_nI (by omega) (by omega)
    have hcl : (nI i).toNatClampNeg = i := cl_nI (by omega)
    rw [q26_14]
    simp only [q26_15, q26_16, q26_19, q26_20, q26_23, gF0, gF1, gF2, gF3, gF4, gF5, gF6, gF7, gF8, gF9, gF10, gF11, gF12, gF13, gF14, gF15, gF16, gF17, gF18, gF19, pF0, pF1, pF2, pF3, pF4, pF5, pF6, pF7, pF8, pF9, pF10, pF11, pF12, pF13, pF14, pF15, pF16, pF17, pF18, pF19, aI_mk, aL_mk, aA_mk, sI_mk, sL_mk, sA_mk, isO_mk, rl_some, rl_none, true_and, and_true, true_or, or_true, wr_1, if_neg hc, r0]
    have ls : [Value.ref o, Value.int (nI i)].all (x_wfv w.1) = true := by
      simp only [List.all_cons, List.all_nil, Bool.and_true, Bool.and_eq_true]
      exact ⟨wfv_ref (by omega), rfl⟩
    rw [Wp_new (idx := 9) (ci := 0) (k := 0) (by decide +kernel) rfl (by rw [mc]; omega) (wf_of ok ls (by
      simp only [List.all_cons, List.all_nil, Bool.and_true, Bool.and_eq_true]
      exact ⟨rfl, wfv_ref (by omega)⟩))]
    have ok1 : okW (x_new w (.inr (0, x_df 0))) := ok.new (by omega) (by rfl)
    have b1 : (x_new w (.inr (0, x_df 0))).1 = o + 2 + 5 * i + 1 := by
      show w.1 + 1 = _
      omega
    have t1 : rd (x_new w (.inr (0, x_df 0))) (o + 2 + 5 * i) = .inr (0, x_df 0) := by
      rw [rd_nw, if_pos (by omega)]
    have f1 : ∀ j, j < o + 2 + 5 * i → rd (x_new w (.inr (0, x_df 0))) j = rd w j := fun j hj => by rw [rd_nw, if_neg (by omega)]
    have s1 : (x_new w (.inr (0, x_df 0))).2.2 = w.2.2 := rfl
    generalize x_new w (.inr (0, x_df 0)) = w1 at ok1 b1 t1 f1 s1
    rw [hb]
    show Wp 26 _ 27 [.ref o, .int (nI i)] [.ref (o + 2 + 5 * i), .int (nI i), .ref (o + 1)] w1 Q
    rw [q26_27]
    have l2 : [Value.ref (o + 2 + 5 * i), Value.int (nI i), Value.ref (o + 1)].all (x_wfv w1.1) = true := by
      simp only [List.all_cons, List.all_nil, Bool.and_true, Bool.and_eq_true]
      exact ⟨wfv_ref (by omega), rfl, wfv_ref (by omega)⟩
    rw [Wp_ini (idx := 17) (t := 0) (by decide +kernel) rfl rfl (by decide) (by decide) (Nat.le_of_ble_eq_true rfl) (by decide) (by rw [mc, mc0]; omega) (wf_of ok1 (by
      simp only [List.all_cons, List.all_nil, Bool.and_true, Bool.and_eq_true]
      exact ⟨wfv_ref (by omega), rfl⟩) l2) (wfv_ref (by omega))]
    refine c0 (o := o + 2 + 5 * i) (by omega) ok1 (by omega) t1 (fun w2 b2 ok2 s2 D2 f2 => ?_)
    have g : ∀ j, j < o + 2 + 5 * i → rd w2 j = rd w j := fun j hj => (f2 j hj).trans (f1 j hj)
    have r2 : rd w2 (o + 1) = .inl (3, 5, .inr (.inr (.inr (.inr kf)))) := (g (o + 1) (by omega)).trans r1
    have d2 := D2.1
    simp only [rl_none]
    show Wp 26 _ 31 [.ref o, .int (nI i)] [.ref (o + 2 + 5 * i), .int (nI i), .ref (o + 1)] w2 Q
    rw [q26_31, r2, d2, sA_mk]
    refine ⟨hx, ?_⟩
    rw [hcl]
    simp only [q26_32, q26_35, nI_1]
    have ok3 : okW (wr w2 (o + 1) (.inl (3, 5, .inr (.inr (.inr (.inr (va_up kf i (some (o + 2 + 5 * i)))))))) ) := ok2.wr (by
      have o2 := ok2.1 (o + 1) (by omega)
      have r3 : w2.2.1 (o + 1) = .inl (3, 5, .inr (.inr (.inr (.inr kf)))) := r2
      rw [r3] at o2
      simp only [x_wfc, List.all_eq_true, List.mem_range] at o2 ⊢
      intro j hj
      by_cases c : j = i
      · subst c
        simp only [va_up, if_true, decide_eq_true_eq]
        omega
      · have := o2 j hj
        simp only [va_up, if_neg c]
        exact this)
    have fw : fr w2 (wr w2 (o + 1) (.inl (3, 5, .inr (.inr (.inr (.inr (va_up kf i (some (o + 2 + 5 * i)))))))) ) (o + 1) (o + 2) := fr.wr (by omega) (by omega)
    refine ih (i + 1) _ (by omega) (by show w2.1 = _; omega) ok3 (by rw [rd_n (by omega), g o (by omega)]; exact r0) ⟨_, rd_s, fun j hj => ?_⟩ (fun j hj => ?_) (fun w4 b4 ok4 s4 H4 D4 f4 => K w4 b4 ok4 (s4.trans (s2.trans s1)) H4 D4 (fun j hj => ?_))
    · by_cases c : j = i
      · subst c
        simp only [va_up, if_true]
      · simp only [va_up, if_neg c]
        exact h1 j (by omega)
    · by_cases c : j = i
      · subst c
        exact D2.fr fw (by omega)
      · have f3 : fr w w2 (o + 2 + 5 * i) 2000000 ∨ True := Or.inr trivial
        have dj := hd j (by omega)
        have dj2 : isDD w2 (o + 2 + 5 * j) d00 := by
          obtain ⟨x0, x1, x2, x3, x4⟩ := dj
          exact ⟨(g _ (by omega)).trans x0, (g _ (by omega)).trans x1, (g _ (by omega)).trans x2, (g _ (by omega)).trans x3, (g _ (by omega)).trans x4⟩
        exact dj2.fr fw (by omega)
    · rw [f4 j hj, rd_n (by omega), g j (by omega)]
theorem c26 (hb : w.1 = o + 1) (ok : okW w) (h : o + 40 < 1000) (hr : rd w o = .inr (1, x_df 1)) (K : ∀ w2, w2.1 = o + 27 → okW w2 → w2.2.2 = w.2.2 → isH w2 o 0 (fun j => o + 2 + 5 * j) → (∀ j, j < 5 → isDD w2 (o + 2 + 5 * j) d00) → (∀ j, j < o → rd w2 j = rd w j) → Q none w2) : Wp 26 w.1 0 [.ref o, x_no] [] w Q := by
  rw [x_df1] at hr
  have mc : m_mc 26 = 26 := by decide
  have n5 : ¬ (5 : Int32) < 0 := by decide
  have k5 : (5 : Int32).toNatClampNeg = 5 := by decide
  have ls : [Value.ref o, x_no].all (x_wfv w.1) = true := by
    simp only [List.all_cons, List.all_nil, Bool.and_true, Bool.and_eq_true]
    exact ⟨wfv_ref (by omega), rfl⟩
  simp only [q26_0, q26_1, q26_4, q26_5]
  rw [Wp_newR (idx := 9) (by decide +kernel) rfl (by rw [mc]; omega) (wf_of ok ls (by
    simp only [List.all_cons, List.all_nil, Bool.and_true]
    exact wfv_ref (by omega))) n5 (by rw [k5]; omega), k5]
  have ok1 : okW (x_new w (.inl (3, 5, .inr (.inr (.inr (.inr (fun _ => none))))))) := ok.new (by omega) (by rfl)
  have r1 : rd (x_new w (.inl (3, 5, .inr (.inr (.inr (.inr (fun _ => none))))))) o = .inr (1, [.null, .int (nI 0)]) := by
    rw [rd_nw, if_neg (by omega)]
    exact hr
  rw [Wp_putff (idx := 11) (ci := 1) (k := 0) (kd := 2) (by decide +kernel) rfl rfl rfl ⟨by decide, by decide⟩, r1, pF0]
  show Wp 26 _ 12 [.ref o, x_no] [] _ Q
  simp only [q26_12, q26_13]
  rw [hb]
  refine l26 rfl h 5 0 _ (by omega) (by show w.1 + 1 = _; omega) (ok1.wr (by
    simp only [x_wfc, List.all_cons, List.all_nil, Bool.and_true, Bool.and_eq_true]
    exact ⟨wfv_ref (by show o + 1 < w.1 + 1; omega), rfl⟩)) rd_s ⟨fun _ => none, ?_, fun j hj => absurd hj (Nat.not_lt_zero _)⟩ (fun j hj => absurd hj (Nat.not_lt_zero _)) (fun w2 b2 ok2 s2 H2 D2 f2 => K w2 b2 ok2 s2 H2 D2 (fun j hj => ?_))
  · rw [rd_n (by omega), rd_nw, if_pos (by omega)]
  · rw [f2 j hj, rd_n (by omega), rd_nw, if_neg (by omega)]
end CJ
