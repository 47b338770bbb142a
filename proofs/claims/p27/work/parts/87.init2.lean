/-! The constructors -/
def z32 : Nat → Int32 := fun _ => 0
def z64 : Nat → Int64 := fun _ => 0
def d00 : DD := ((0, 0, 100, 0), z32, z32, z32, z32)
theorem x_df0 : x_df 0 = [.int 0, .int 0, .int 0, .int (nI 0), .null, .null, .null, .null] := rfl
theorem x_df1 : x_df 1 = [.null, .int (nI 0)] := rfl
theorem x_df2 : x_df 2 = [.null, .null, .null, .null, .int 0, .long 0] := rfl
theorem x_df3 : x_df 3 = [.null, .int (nI 0), .int 0, .int 0, .int 0, .int 0] := rfl
theorem x_df4 : x_df 4 = [.null, .int (nI 0), .int (nI 0), .int 0] := rfl
theorem x_df5 : x_df 5 = [.null, .null, .null, .null, .null] := rfl
section CI
variable {b o : Nat} {w : xW} {Q : Option Value → xW → Prop}
theorem c0 (hb : w.1 = o + 1) (ok : okW w) (h : o + 6 < 1000) (hr : rd w o = .inr (0, x_df 0)) (K : ∀ w2, w2.1 = o + 5 → okW w2 → w2.2.2 = w.2.2 → isDD w2 o d00 → (∀ j, j < o → rd w2 j = rd w j) → Q none w2) : Wp 0 w.1 0 [.ref o] [] w Q := by
  rw [x_df0] at hr
  have l1 : ∀ w2 : xW, w.1 ≤ w2.1 → [Value.ref o].all (x_wfv w2.1) = true := fun w2 h2 => by
    simp only [List.all_cons, List.all_nil, Bool.and_true]
    exact wfv_ref (by omega)
  have n12 : ¬ (12 : Int32) < 0 := by decide
  have k12 : (12 : Int32).toNatClampNeg = 12 := by decide
  have n72 : ¬ (72 : Int32) < 0 := by decide
  have k72 : (72 : Int32).toNatClampNeg = 72 := by decide
  simp only [q0_0, q0_1, q0_4, q0_5, q0_7, gF0, gF1, gF2, gF3, gF4, gF5, gF6, gF7, gF8, gF9, gF10, gF11, gF12, gF13, gF14, gF15, gF16, gF17, gF18, gF19, pF0, pF1, pF2, pF3, pF4, pF5, pF6, pF7, pF8, pF9, pF10, pF11, pF12, pF13, pF14, pF15, pF16, pF17, pF18, pF19, aI_mk, aL_mk, aA_mk, sI_mk, sL_mk, sA_mk, isO_mk, rl_some, rl_none, true_and, and_true, true_or, or_true, wr_1, hr]
  have mc : m_mc 0 = 4 := by decide
  have ok1 : okW (wr w o (.inr (0, [.int 0, .int 0, .int 100, .int (nI 0), .null, .null, .null, .null]))) := ok.wr (by rfl)
  generalize hw1 : wr w o (.inr (0, [.int 0, .int 0, .int 100, .int (nI 0), .null, .null, .null, .null])) = w1 at ok1
  have b1 : w1.1 = o + 1 := by rw [← hw1]; exact hb
  have s1 : w1.2.2 = w.2.2 := by rw [← hw1]; rfl
  have r1 : rd w1 o = .inr (0, [.int 0, .int 0, .int 100, .int (nI 0), .null, .null, .null, .null]) := by rw [← hw1]; exact rd_s
  have f1 : ∀ j, j < o → rd w1 j = rd w j := fun j hj => by rw [← hw1]; exact rd_n (by omega)
  refine st_A (c := .inl (0, 12, .inl (fun _ => 0))) (pc2 := 15) (idx := 15) (ci := 0) (k := 4) (by
    simp only [q0_10, q0_11]
    rw [Wp_newI (by decide +kernel) (by rw [mc]; omega) (wf_of ok1 (l1 w1 (by omega)) (by simp only [List.all_cons, List.all_nil, Bool.and_true]; exact wfv_ref (by omega))) n12 (by rw [k12]; omega), k12]) (by decide +kernel) rfl rfl ⟨by decide, by decide⟩ ok1 (by omega) rfl (by omega) r1 (Nat.le_of_ble_eq_true rfl) (fun w2 b2 ok2 s2 a2 r2 f2 => ?_)
  show Wp 0 _ 18 [.ref o] [] w2 Q
  refine st_A (c := .inl (0, 12, .inl (fun _ => 0))) (pc2 := 23) (idx := 19) (ci := 0) (k := 5) (by
    simp only [q0_18, q0_19]
    rw [Wp_newI (by decide +kernel) (by rw [mc]; omega) (wf_of ok2 (l1 w2 (by omega)) (by simp only [List.all_cons, List.all_nil, Bool.and_true]; exact wfv_ref (by omega))) n12 (by rw [k12]; omega), k12]) (by decide +kernel) rfl rfl ⟨by decide, by decide⟩ ok2 (by omega) rfl (by omega) r2 (Nat.le_of_ble_eq_true rfl) (fun w3 b3 ok3 s3 a3 r3 f3 => ?_)
  show Wp 0 _ 26 [.ref o] [] w3 Q
  refine st_A (c := .inl (0, 12, .inl (fun _ => 0))) (pc2 := 31) (idx := 22) (ci := 0) (k := 6) (by
    simp only [q0_26, q0_27]
    rw [Wp_newI (by decide +kernel) (by rw [mc]; omega) (wf_of ok3 (l1 w3 (by omega)) (by simp only [List.all_cons, List.all_nil, Bool.and_true]; exact wfv_ref (by omega))) n12 (by rw [k12]; omega), k12]) (by decide +kernel) rfl rfl ⟨by decide, by decide⟩ ok3 (by omega) rfl (by omega) r3 (Nat.le_of_ble_eq_true rfl) (fun w4 b4 ok4 s4 a4 r4 f4 => ?_)
  show Wp 0 _ 34 [.ref o] [] w4 Q
  refine st_A (c := .inl (0, 72, .inl (fun _ => 0))) (pc2 := 39) (idx := 25) (ci := 0) (k := 7) (by
    simp only [q0_34, q0_35]
    rw [Wp_newI (by decide +kernel) (by rw [mc]; omega) (wf_of ok4 (l1 w4 (by omega)) (by simp only [List.all_cons, List.all_nil, Bool.and_true]; exact wfv_ref (by omega))) n72 (by rw [k72]; omega), k72]) (by decide +kernel) rfl rfl ⟨by decide, by decide⟩ ok4 (by omega) rfl (by omega) r4 (Nat.le_of_ble_eq_true rfl) (fun w5 b5 ok5 s5 a5 r5 f5 => ?_)
  rw [Wp_retI (by decide +kernel) rfl (by rw [mc]; omega)]
  have e1 : w1.1 = o + 1 := by omega
  have e2 : w2.1 = o + 2 := by omega
  have e3 : w3.1 = o + 3 := by omega
  have e4 : w4.1 = o + 4 := by omega
  have e5 : w5.1 = o + 5 := by omega
  rw [e1] at a2 r2 r3 r4 r5 f2
  rw [e2] at a3 r3 r4 r5 f3
  rw [e3] at a4 r4 r5 f4
  rw [e4] at a5 r5 f5
  refine K w5 (by omega) ok5 (s5.trans (s4.trans (s3.trans (s2.trans s1)))) ⟨r5, ?_, ?_, ?_, a5⟩ (fun j hj => ?_)
  · show rd w5 (o + 1) = _
    rw [f5 _ (by omega) (by omega), f4 _ (by omega) (by omega), f3 _ (by omega) (by omega)]
    exact a2
  · show rd w5 (o + 2) = _
    rw [f5 _ (by omega) (by omega), f4 _ (by omega) (by omega)]
    exact a3
  · show rd w5 (o + 3) = _
    rw [f5 _ (by omega) (by omega)]
    exact a4
  · rw [f5 _ (by omega) (by omega), f4 _ (by omega) (by omega), f3 _ (by omega) (by omega), f2 _ (by omega) (by omega)]
    exact f1 j hj
theorem c46 (hb : w.1 = o + 1) (ok : okW w) (h : o + 6 < 1000) (hr : rd w o = .inr (3, x_df 3)) (K : ∀ w2, w2.1 = o + 2 → okW w2 → w2.2.2 = w.2.2 → isX w2 o z32 0 0 0 0 0 → (∀ j, j < o → rd w2 j = rd w j) → Q none w2) : Wp 46 w.1 0 [.ref o] [] w Q := by
  rw [x_df3] at hr
  have l1 : ∀ w2 : xW, w.1 ≤ w2.1 → [Value.ref o].all (x_wfv w2.1) = true := fun w2 h2 => by
    simp only [List.all_cons, List.all_nil, Bool.and_true]
    exact wfv_ref (by omega)
  have n80 : ¬ (80 : Int32) < 0 := by decide
  have k80 : (80 : Int32).toNatClampNeg = 80 := by decide
  have mc : m_mc 46 = 1 := by decide
  simp only [q46_0, q46_1]
  obtain ⟨w1, hw⟩ : ∃ w1, w1 = w := ⟨w, rfl⟩
  subst hw
  have ok1 := ok
  have r1 := hr
  have b1 := hb
  refine st_A (c := .inl (2, 80, .inl (fun _ => 0))) (pc2 := 9) (idx := 9) (ci := 3) (k := 0) (by
    simp only [q46_4, q46_5]
    rw [Wp_newC (by decide +kernel) (by rw [mc]; omega) (wf_of ok1 (l1 w1 (by omega)) (by simp only [List.all_cons, List.all_nil, Bool.and_true]; exact wfv_ref (by omega))) n80 (by rw [k80]; omega), k80]) (by decide +kernel) rfl rfl ⟨by decide, by decide⟩ ok1 (by omega) rfl (by omega) r1 (Nat.le_of_ble_eq_true rfl) (fun w2 b2 ok2 s2 a2 r2 f2 => ?_)
  rw [Wp_retI (by decide +kernel) rfl (by rw [mc]; omega)]
  have e1 : w1.1 = o + 1 := by omega
  have e2 : w2.1 = o + 2 := by omega
  rw [e1] at a2 r2 f2
  exact K w2 (by omega) ok2 s2 ⟨r2, a2⟩ (fun j hj => f2 j (by omega) (by omega))
theorem c54 (hb : w.1 = o + 1) (ok : okW w) (h : o + 20 < 1000) (hr : rd w o = .inr (4, x_df 4)) (K : ∀ w2, w2.1 = o + 6 → okW w2 → w2.2.2 = w.2.2 → isR w2 o 0 0 0 → isDD w2 (o + 1) d00 → (∀ j, j < o → rd w2 j = rd w j) → Q none w2) : Wp 54 w.1 0 [.ref o] [] w Q := by
  rw [x_df4] at hr
  have mc : m_mc 54 = 5 := by decide
  have mc0 : m_mc 0 = 4 := by decide
  have l1 : ∀ w2 : xW, w.1 ≤ w2.1 → [Value.ref o].all (x_wfv w2.1) = true := fun w2 h2 => by
    simp only [List.all_cons, List.all_nil, Bool.and_true]
    exact wfv_ref (by omega)
  simp only [q54_0, q54_1, q54_4]
  rw [Wp_new (idx := 9) (ci := 0) (k := 0) (by decide +kernel) rfl (by rw [mc]; omega) (wf_of ok (l1 w (by omega)) (l1 w (by omega)))]
  have ok1 : okW (x_new w (.inr (0, x_df 0))) := ok.new (by omega) (by rfl)
  have b1 : (x_new w (.inr (0, x_df 0))).1 = o + 2 := by
    show w.1 + 1 = o + 2
    omega
  have r1 : rd (x_new w (.inr (0, x_df 0))) (o + 1) = .inr (0, x_df 0) := by
    rw [rd_nw, if_pos (by omega)]
  have r0 : rd (x_new w (.inr (0, x_df 0))) o = .inr (4, [.null, .int (nI 0), .int (nI 0), .int 0]) := by
    rw [rd_nw, if_neg (by omega)]
    exact hr
  have f1 : ∀ j, j < o → rd (x_new w (.inr (0, x_df 0))) j = rd w j := fun j hj => by rw [rd_nw, if_neg (by omega)]
  have s1 : (x_new w (.inr (0, x_df 0))).2.2 = w.2.2 := rfl
  generalize x_new w (.inr (0, x_df 0)) = w1 at ok1 b1 r1 r0 f1 s1
  rw [hb] at *
  show Wp 54 _ 8 [.ref o] [.ref (o + 1), .ref o] w1 Q
  simp only [q54_8]
  have l2 : [Value.ref (o + 1), Value.ref o].all (x_wfv w1.1) = true := by
    simp only [List.all_cons, List.all_nil, Bool.and_true, Bool.and_eq_true]
    exact ⟨wfv_ref (by omega), wfv_ref (by omega)⟩
  rw [Wp_ini (idx := 11) (t := 0) (by decide +kernel) rfl rfl (by decide) (by decide) (Nat.le_of_ble_eq_true rfl) (by decide) (by rw [mc, mc0]; omega) (wf_of ok1 (by simp only [List.all_cons, List.all_nil, Bool.and_true]; exact wfv_ref (by omega)) l2) (wfv_ref (by omega))]
  refine c0 (o := o + 1) (by omega) ok1 (by omega) r1 (fun w2 b2 ok2 s2 D2 f2 => ?_)
  have r2 : rd w2 o = .inr (4, [.null, .int (nI 0), .int (nI 0), .int 0]) := (f2 o (by omega)).trans r0
  simp only [rl_none]
  rw [Wp_putff (idx := 12) (ci := 4) (k := 0) (kd := 2) (by decide +kernel) rfl rfl rfl ⟨by decide, by decide⟩, r2, pF0]
  have ok3 : okW (wr w2 o (.inr (4, [.ref (o + 1), .int (nI 0), .int (nI 0), .int 0]))) := ok2.wr (by
    simp only [x_wfc, List.all_cons, List.all_nil, Bool.and_true, Bool.and_eq_true]
    exact ⟨wfv_ref (by omega), rfl, rfl, rfl⟩)
  rw [Wp_retI (by decide +kernel) rfl (by rw [mc]; show w2.1 = _; omega)]
  exact K _ b2 ok3 (s2.trans s1) rd_s (D2.fr (fr.wr (lo := o) (hi := o + 1) (by omega) (by omega)) (by omega)) (fun j hj => by rw [rd_n (by omega), f2 j (by omega), f1 j hj])
end CI
