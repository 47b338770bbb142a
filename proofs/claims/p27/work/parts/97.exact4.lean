/-! exact from its start -/
theorem rm_b {s : Nat × (Nat → Int32)} {j : Nat} {m h : Int32} (hm : 0 < m.toInt ∧ m.toInt ≤ 1000) (hh : 0 ≤ h.toInt ∧ h.toInt ≤ 1000) : (ceF s j - ceF s j / m * m - h).toInt = (ceF s j).toInt % m.toInt - h.toInt ∧ 0 ≤ (ceF s j).toInt % m.toInt ∧ (ceF s j).toInt % m.toInt < m.toInt := by
  have h1 := (qr_Z (ce_nn s j) hm.1).2
  have h2 := Int.emod_nonneg (ceF s j).toInt (show m.toInt ≠ 0 by omega)
  have h3 := Int.emod_lt_of_pos (ceF s j).toInt hm.1
  generalize ceF s j - ceF s j / m * m = c at h1 ⊢
  rw [i32_sub (by omega) (by omega), h1]
  exact ⟨rfl, h2, h3⟩
theorem v00 : vC d00 0 (fun _ => d00) z32 0 := ⟨⟨by decide, fun i hi => absurd hi (Nat.not_lt_zero _)⟩, by omega, fun i hi => absurd hi (Nat.not_lt_zero _), by omega, fun j hj => absurd hj (Nat.not_lt_zero _)⟩
theorem g00 : vG d00 4 := ⟨v00.1, ⟨rfl, Or.inl rfl⟩, fun i hi => absurd hi (Nat.not_lt_zero _), fun j hj => absurd hj (Nat.not_lt_zero _), by decide, by decide⟩
theorem p00 : vP d00 := ⟨fun r hr => absurd hr (Nat.not_lt_zero _), fun r s hr => absurd hr (Nat.not_lt_zero _)⟩
section X4
variable {oo b U ff : Nat} {w0 w : xW} {d : DD} {k : Nat} {H : Nat → DD} {Q : Option Value → xW → Prop} {s p f : Int32}
theorem x92 (I : sI oo w0 w d k H U) {j : Nat} (hj : j ≤ 1000) (hL : w0.2.2.1 ≤ 1000) (K : Q (some (.int (ceF w0.2.2 j))) w) : Wp 92 b 0 [.ref x_scr, .int (nI j)] [] w Q := c92 hj (by rw [I.1.1.2.1]; exact hL) (by rw [I.1.1.2.1]; exact K)
theorem t94s (hf : ff ≤ 90) (hL : w0.2.2.1 ≤ 1000) (hb : w0.1 = b + 51) (h0 : (p = 0 ∧ f = 0) ∨ p = 1) (hfb : -20 ≤ f.toInt ∧ f.toInt ≤ 20) (I : sI oo w0 w d00 0 (fun _ => d00) 4) (K : ∀ w2, fr w0 w2 oo (oo + 51) → Q (some (.int 1)) w2) : Wp 94 b 37 [.ref x_scr, .int (nI ff), .ref oo, .int p, x_no, x_no, x_no] [.int f] w Q := by
  have z1 : ¬ (1 : Int32) = 0 := by decide
  have z101 : ¬ (101 : Int32) = 0 := by decide
  have p01 : 0 ≤ p ∧ p ≤ 1 := by
    rcases h0 with ⟨rfl, -⟩ | rfl <;> decide
  have e2 : nI ff + 2 = nI (ff + 2) := by rw [show (2 : Int32) = nI 2 from rfl, nI_add]
  have g1 : geD d00 1 = 0 := rfl
  have g2 : geD (stD d00 1 p) 0 = 0 := rfl
  obtain ⟨s1, s2, s3⟩ := rm_b (s := w0.2.2) (j := ff + 2) (m := 101) (h := 50) (by decide) (by decide)
  have e101 : (101 : Int32).toInt = 101 := rfl
  have e50 : (50 : Int32).toInt = 50 := rfl
  rw [e101] at s1 s2 s3
  rw [e50] at s1
  simp only [q94_37, q94_39, q94_40, q94_41, q94_42]
  refine b58 I (Or.inr (Or.inl ⟨rfl, p01⟩)) (fun w k H U I _ => ?_)
  simp only [rl_some, g1, q94_45, q94_48, q94_49, q94_50, q94_51, q94_52, q94_53, q94_54, if_neg (i32_n (x := 0) rfl), e2]
  refine x92 I (by omega) hL ?_
  simp only [rl_some, q94_57, q94_59, q94_60, q94_62, q94_63, z101, not_false_eq_true, true_and]
  generalize ceF w0.2.2 (ff + 2) - ceF w0.2.2 (ff + 2) / 101 * 101 - 50 = s at s1 ⊢
  refine b58 I (Or.inl ⟨rfl, i32_rg (by omega)⟩) (fun w k H U I _ => ?_)
  have B : exB s f (deF w0.2.2 ff) := ⟨by omega, hfb, fun i => de_b _ _ _⟩
  have ed : (stD (stD d00 1 p) 0 s).1 = (s, p, 100, 0) := rfl
  have E : eqD (stD (stD d00 1 p) 0 s) (exD s p f (deF w0.2.2 ff) (3 * 0)) := ⟨ed, fun j hj => absurd hj (Nat.not_lt_zero _)⟩
  simp only [rl_some, g2, q94_66, q94_69, q94_70, q94_74, q94_76, q94_77, if_neg (i32_n (x := 0) rfl)]
  exact l94a (by omega) hL B (fun w d k H x6 I E => t94d (by omega) hL B h0 hb I E K) 4 0 w _ k H (by omega) I E
/-- a new object, as the law's methods make it -/
theorem st_new {y : Nat} {ls : List Value} (ok : okR w) (h1 : w.1 + 80 < 1000) (hls : ls.all (x_wfv w.1) = true) (hb : b ≤ w.1) (hm : w.1 - b + 51 ≤ m_mc y) (hdp : m_dp 57 < m_dp y) (hd0 : decode (m_bc y) 0 = .ok (.new 10, 3)) (hn : x_nl (m_cl y) 10 = some (5, 0)) (hdup : ∀ (w : xW) (a : Nat), Wp y b 3 ls [.ref a] w Q ↔ Wp y b 4 ls [.ref a, .ref a] w Q) (hd4 : decode (m_bc y) 4 = .ok (.invokespecial 34, 3)) (hl : x_ml (m_cl y) 34 = some (2, 57)) (K : ∀ w2, w2.1 = w.1 + 51 → w2.2.2 = w.2.2 → cW w.1 w2 d00 0 (fun _ => d00) z32 0 → (∀ j, j < w.1 → rd w2 j = rd w j) → okR w2 → Wp y b 7 ls [.ref w.1] w2 Q) : Wp y b 0 ls [] w Q := by
  have ow : okW w := ⟨fun k _ => ok.1 k, by omega⟩
  have mc : m_mc 57 = 50 := by decide
  rw [Wp_new (idx := 10) (ci := 5) (k := 0) hd0 hn (by omega) (wf_of ow hls rfl)]
  have ok1 : okR (x_new w (.inr (5, x_df 5))) := okR_new ok (by omega) x_df_wf
  have r1 : rd (x_new w (.inr (5, x_df 5))) w.1 = .inr (5, x_df 5) := by rw [rd_nw, if_pos rfl]
  have b1 : (x_new w (.inr (5, x_df 5))).1 = w.1 + 1 := rfl
  have s1 : (x_new w (.inr (5, x_df 5))).2.2 = w.2.2 := rfl
  have f1 : ∀ j, j < w.1 → rd (x_new w (.inr (5, x_df 5))) j = rd w j := fun j hj => by rw [rd_nw, if_neg (by omega)]
  generalize x_new w (.inr (5, x_df 5)) = w1 at ok1 r1 b1 s1 f1
  show Wp y b 3 ls [.ref w.1] w1 Q
  rw [hdup]
  have ow1 : okW w1 := ⟨fun k _ => ok1.1 k, by omega⟩
  have hr : x_wfv w1.1 (.ref w.1) = true := wfv_ref (by omega)
  have hst : [Value.ref w.1].all (x_wfv w1.1) = true := wv_c hr rfl
  rw [Wp_ini (idx := 34) (t := 57) hd4 hl (by decide) hdp (by decide) (Nat.le_of_ble_eq_true rfl) (by decide) (by rw [mc]; omega) (wf_of ow1 (wv_le hls (by omega)) hst) hr]
  refine Wp_cut ok1 hst rfl ?_
  refine c57 b1 ow1 (by omega) r1 (fun w2 b2 _ s2 C2 f2 ok2 => ?_)
  exact K w2 b2 (s2.trans s1) C2 (fun j hj => (f2 j hj).trans (f1 j hj)) ok2
theorem wv_sc {n : Nat} : x_wfv n (.ref x_scr) = true := by
  show (decide (x_scr < n) || x_scr == x_scr) = true
  rw [beq_self_eq_true, Bool.or_true]
theorem c94 (hf : ff ≤ 90) (ok : okR w) (hL : w.2.2.1 ≤ 1000) (h1 : w.1 + 80 < 1000) (K : ∀ w2, w2.1 = w.1 + 51 → w2.2.2 = w.2.2 → (∀ j, j < w.1 → rd w2 j = rd w j) → Q (some (.int 1)) w2) : Wp 94 w.1 0 [.ref x_scr, .int (nI ff), x_no, x_no, x_no, x_no, x_no] [] w Q := by
  have z2 : ¬ (2 : Int32) = 0 := by decide
  have z41 : ¬ (41 : Int32) = 0 := by decide
  refine st_new (y := 94) ok h1 (wv_c wv_sc rfl) (Nat.le_refl _) (by rw [show m_mc 94 = 51 from by decide]; omega) (by decide) (by decide +kernel) rfl (fun w a => q94_3) (by decide +kernel) rfl (fun w1 b1 s1 C1 f1 _ => ?_)
  have I : sI w.1 w1 w1 d00 0 (fun _ => d00) 4 := ⟨⟨fr.rf, C1⟩, v00, g00, p00⟩
  have hL1 : w1.2.2.1 ≤ 1000 := by rw [s1]; exact hL
  have KK : ∀ w2, fr w1 w2 w.1 (w.1 + 51) → Q (some (.int 1)) w2 := fun w2 f2 => K w2 (f2.1.trans b1) (f2.2.1.trans s1) (fun j hj => (f2.2.2 j (Or.inl hj)).trans (f1 j hj))
  simp only [q94_7, q94_8, q94_9, q94_10]
  refine x92 I (by omega) hL1 ?_
  simp only [rl_some, q94_13, q94_14, q94_15, q94_16, z2, not_false_eq_true, true_and]
  have hp := (qr_Z (ce_nn w1.2.2 ff) (y := 2) (by decide)).2
  rw [show (2 : Int32).toInt = 2 from rfl] at hp
  generalize ceF w1.2.2 ff - ceF w1.2.2 ff / 2 * 2 = p at hp ⊢
  by_cases c : p = 0
  · rw [q94_17, if_neg (i32_n c)]
    simp only [q94_20, q94_21]
    exact t94s hf hL1 b1 (Or.inl ⟨c, rfl⟩) (by decide) I KK
  · have c1 : p = 1 := by
      refine Int32.toInt_inj.mp ?_
      have h3 : (ceF w1.2.2 ff).toInt % 2 = 0 ∨ (ceF w1.2.2 ff).toInt % 2 = 1 := by omega
      rw [show (1 : Int32).toInt = 1 from rfl]
      rcases h3 with h3 | h3
      · exact absurd (Int32.toInt_inj.mp (show p.toInt = (0 : Int32).toInt by rw [hp, h3]; rfl)) c
      · omega
    rw [q94_17, if_pos c]
    simp only [q94_24, q94_25, q94_26, q94_27, q94_28, nI_1]
    refine x92 I (by omega) hL1 ?_
    simp only [rl_some, q94_31, q94_33, q94_34, q94_36, z41, not_false_eq_true, true_and]
    obtain ⟨s1', s2', s3'⟩ := rm_b (s := w1.2.2) (j := ff + 1) (m := 41) (h := 20) (by decide) (by decide)
    rw [show (41 : Int32).toInt = 41 from rfl] at s1' s2' s3'
    rw [show (20 : Int32).toInt = 20 from rfl] at s1'
    exact t94s hf hL1 b1 (Or.inr c1) (by omega) I KK
end X4
