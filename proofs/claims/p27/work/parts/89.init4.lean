/-! A new object, over its base cell -/
theorem isDD.c {w w2 : xW} {o : Nat} {d : DD} (D : isDD w o d) (h : ∀ j, o ≤ j → j < o + 5 → rd w2 j = rd w j) : isDD w2 o d := by
  obtain ⟨x0, x1, x2, x3, x4⟩ := D
  exact ⟨(h _ (by omega) (by omega)).trans x0, (h _ (by omega) (by omega)).trans x1, (h _ (by omega) (by omega)).trans x2, (h _ (by omega) (by omega)).trans x3, (h _ (by omega) (by omega)).trans x4⟩
section CK
variable {oo b : Nat} {w : xW} {Q : Option Value → xW → Prop}
/-- an object made and put into a field of the one at 0 -/
theorem st_O {a t pc idx idx2 idx3 ci ck k : Nat} {fs : List Value} {P : xW → Prop} (ok : okW w) (hb : w.1 = a) (h0 : oo < a) (hbb : b = oo + 1) (ho : oo + 80 < 1000) (hr : rd w oo = .inr (5, fs)) (hkl : k < fs.length) (hd1 : decode (m_bc 57) pc = .ok (.new idx, 3)) (hn : x_nl (m_cl 57) idx = some (ci, ck)) (hdup : ∀ (w : xW), Wp 57 b (pc + 3) [.ref oo] [.ref a, .ref oo] w Q ↔ Wp 57 b (pc + 4) [.ref oo] [.ref a, .ref a, .ref oo] w Q) (hd2 : decode (m_bc 57) (pc + 4) = .ok (.invokespecial idx2, 3)) (hl : x_ml (m_cl 57) idx2 = some (2, t)) (hnp : m_np t = 0) (hdp : m_dp t < m_dp 57) (hlaw : t < m_law) (hml : 1 ≤ m_ml t) (hd3 : decode (m_bc 57) (pc + 7) = .ok (.putfield idx3, 3)) (hf : x_fl (m_cl 57) idx3 = some (5, k)) (hk : (x_fk 5)[k]? = some (2, true)) (hdf : x_wfc (a + 1) (.inr (ci, x_df ci)) = true) (ha : a + m_mc t ≤ oo + 50) (hc : ∀ (w1 : xW) (Q' : Option Value → xW → Prop), w1.1 = a + 1 → okW w1 → rd w1 a = .inr (ci, x_df ci) → (∀ w2, w2.1 = a + 1 + m_mc t → okW w2 → w2.2.2 = w1.2.2 → P w2 → (∀ j, j < a → rd w2 j = rd w1 j) → Q' none w2) → Wp t w1.1 0 (x_ent [.ref a] (m_ml t)) [] w1 Q') (K : ∀ w3 w2, w3.1 = a + 1 + m_mc t → okW w3 → w3.2.2 = w.2.2 → P w2 → (∀ j, j ≠ oo → rd w3 j = rd w2 j) → rd w3 oo = .inr (5, fs.set k (.ref a)) → (∀ j, j ≠ oo → j < a → rd w3 j = rd w j) → Wp 57 b (pc + 10) [.ref oo] [] w3 Q) : Wp 57 b pc [.ref oo] [.ref oo] w Q := by
  have mc : m_mc 57 = 50 := by decide
  have ls : ∀ w2 : xW, oo < w2.1 → [Value.ref oo].all (x_wfv w2.1) = true := fun w2 h2 => by
    simp only [List.all_cons, List.all_nil, Bool.and_true]
    exact wfv_ref h2
  rw [Wp_new (idx := idx) (ci := ci) (k := ck) hd1 hn (by rw [mc]; omega) (wf_of ok (ls w (by omega)) (ls w (by omega)))]
  have ok1 : okW (x_new w (.inr (ci, x_df ci))) := ok.new (by omega) (by rw [hb]; exact hdf)
  have b1 : (x_new w (.inr (ci, x_df ci))).1 = a + 1 := by
    show w.1 + 1 = _
    omega
  have t1 : rd (x_new w (.inr (ci, x_df ci))) a = .inr (ci, x_df ci) := by
    rw [rd_nw, if_pos hb.symm]
  have f1 : ∀ j, j < a → rd (x_new w (.inr (ci, x_df ci))) j = rd w j := fun j hj => by rw [rd_nw, if_neg (by omega)]
  have s1 : (x_new w (.inr (ci, x_df ci))).2.2 = w.2.2 := rfl
  generalize x_new w (.inr (ci, x_df ci)) = w1 at ok1 b1 t1 f1 s1
  rw [hb, hdup]
  rw [Wp_ini (idx := idx2) (t := t) hd2 hl hnp hdp hlaw (Nat.le_of_ble_eq_true rfl) hml (by rw [mc]; omega) (wf_of ok1 (ls w1 (by omega)) (by
    simp only [List.all_cons, List.all_nil, Bool.and_true, Bool.and_eq_true]
    exact ⟨wfv_ref (by omega), wfv_ref (by omega)⟩)) (wfv_ref (by omega))]
  refine hc w1 _ b1 ok1 t1 (fun w2 b2 ok2 s2 p2 f2 => ?_)
  have r2 : rd w2 oo = .inr (5, fs) := (f2 oo h0).trans ((f1 oo h0).trans hr)
  simp only [rl_none]
  rw [Wp_putff (idx := idx3) (ci := 5) (k := k) (kd := 2) hd3 hf hk rfl ⟨by decide, by decide⟩]
  refine ⟨fs, r2, hkl, ?_⟩
  have o2 : x_wfc w2.1 (.inr (5, fs)) = true := by
    have := ok2.1 oo (by omega)
    have r3 : w2.2.1 oo = .inr (5, fs) := r2
    rw [r3] at this
    exact this
  refine K _ w2 b2 (ok2.wr (all_set o2 (wfv_ref (by omega)))) (s2.trans s1) p2 (fun j hj => rd_n (by omega)) rd_s (fun j h1 h2 => ?_)
  rw [rd_n (by omega), f2 j h2, f1 j h2]
theorem c57 (hb : w.1 = oo + 1) (ok : okW w) (ho : oo + 80 < 1000) (hr : rd w oo = .inr (5, x_df 5)) (K : ∀ w2, w2.1 = oo + 51 → okW w2 → w2.2.2 = w.2.2 → cW oo w2 d00 0 (fun _ => d00) z32 0 → (∀ j, j < oo → rd w2 j = rd w j) → Q none w2) : Wp 57 w.1 0 [.ref oo] [] w Q := by
  rw [x_df5] at hr
  simp only [q57_0, q57_1, q57_4]
  refine st_O (t := 0) (idx := 7) (idx2 := 9) (idx3 := 10) (ci := 0) (ck := 0) (k := 0) (P := fun w2 => isDD w2 (oo + 1) d00) ok hb (by omega) hb ho hr (Nat.le_of_ble_eq_true rfl) (by decide +kernel) rfl (fun w2 => q57_8) (by decide +kernel) rfl rfl (by decide) (by decide) (by decide) (by decide +kernel) rfl rfl rfl (by rw [show m_mc 0 = 4 from by decide]; omega) (fun w1 Q' b1 o1 r1 K1 => c0 b1 o1 (by omega) r1 K1) (fun w3 w2 b3 ok3 s3 p3 g3 r3 f3 => ?_)
  have D3 : isDD w3 (oo + 1) d00 := p3.c (fun j h1 h2 => g3 j (by omega))
  have b3' : w3.1 = oo + 6 := by
    have e : m_mc 0 = 4 := by decide
    rw [e] at b3
    omega
  show Wp 57 _ 15 [.ref oo] [] w3 Q
  rw [q57_15]
  refine st_O (t := 26) (idx := 16) (idx2 := 18) (idx3 := 19) (ci := 1) (ck := 0) (k := 1) (P := fun w2 => isH w2 (oo + 6) 0 (fun j => oo + 6 + 2 + 5 * j) ∧ ∀ j, j < 5 → isDD w2 (oo + 6 + 2 + 5 * j) d00) ok3 b3' (by omega) hb ho r3 (Nat.le_of_ble_eq_true rfl) (by decide +kernel) rfl (fun w2 => q57_19) (by decide +kernel) rfl rfl (by decide) (by decide) (by decide) (by decide +kernel) rfl rfl rfl (by rw [show m_mc 26 = 26 from by decide]; omega) (fun w1 Q' b1 o1 r1 K1 => c26 b1 o1 (by omega) r1 (fun w2 b2 ok2 s2 H2 D2 f2 => K1 w2 b2 ok2 s2 ⟨H2, D2⟩ f2)) (fun w5 w4 b5 ok5 s5 p5 g5 r5 f5 => ?_)
  have D5 : isDD w5 (oo + 1) d00 := D3.c (fun j h1 h2 => f5 j (by omega) (by omega))
  have H5 : isH w5 (oo + 6) 0 (fun j => oo + 6 + 2 + 5 * j) := by
    obtain ⟨x0, kf, x1, x2⟩ := p5.1
    exact ⟨(g5 _ (by omega)).trans x0, kf, (g5 _ (by omega)).trans x1, x2⟩
  have I5 : ∀ j, j < 5 → isDD w5 (oo + 6 + 2 + 5 * j) d00 := fun j hj => (p5.2 j hj).c (fun z h1 h2 => g5 z (by omega))
  have b5' : w5.1 = oo + 33 := by
    have e : m_mc 26 = 26 := by decide
    rw [e] at b5
    omega
  show Wp 57 _ 26 [.ref oo] [] w5 Q
  rw [q57_26]
  refine st_O (t := 46) (idx := 23) (idx2 := 25) (idx3 := 26) (ci := 3) (ck := 0) (k := 2) (P := fun w2 => isX w2 (oo + 33) z32 0 0 0 0 0) ok5 b5' (by omega) hb ho r5 (Nat.le_of_ble_eq_true rfl) (by decide +kernel) rfl (fun w2 => q57_30) (by decide +kernel) rfl rfl (by decide) (by decide) (by decide) (by decide +kernel) rfl rfl rfl (by rw [show m_mc 46 = 1 from by decide]; omega) (fun w1 Q' b1 o1 r1 K1 => c46 b1 o1 (by omega) r1 K1) (fun w7 w6 b7 ok7 s7 p7 g7 r7 f7 => ?_)
  have D7 : isDD w7 (oo + 1) d00 := D5.c (fun j h1 h2 => f7 j (by omega) (by omega))
  have H7 : isH w7 (oo + 6) 0 (fun j => oo + 6 + 2 + 5 * j) := by
    obtain ⟨x0, kf, x1, x2⟩ := H5
    exact ⟨(f7 _ (by omega) (by omega)).trans x0, kf, (f7 _ (by omega) (by omega)).trans x1, x2⟩
  have I7 : ∀ j, j < 5 → isDD w7 (oo + 6 + 2 + 5 * j) d00 := fun j hj => (I5 j hj).c (fun z h1 h2 => f7 z (by omega) (by omega))
  have X7 : isX w7 (oo + 33) z32 0 0 0 0 0 := ⟨(g7 _ (by omega)).trans p7.1, (g7 _ (by omega)).trans p7.2⟩
  have b7' : w7.1 = oo + 35 := by
    have e : m_mc 46 = 1 := by decide
    rw [e] at b7
    omega
  show Wp 57 _ 37 [.ref oo] [] w7 Q
  rw [q57_37]
  refine st_O (t := 54) (idx := 30) (idx2 := 32) (idx3 := 33) (ci := 4) (ck := 0) (k := 3) (P := fun w2 => isR w2 (oo + 35) 0 0 0 ∧ isDD w2 (oo + 36) d00) ok7 b7' (by omega) hb ho r7 (Nat.le_of_ble_eq_true rfl) (by decide +kernel) rfl (fun w2 => q57_41) (by decide +kernel) rfl rfl (by decide) (by decide) (by decide) (by decide +kernel) rfl rfl rfl (by rw [show m_mc 54 = 5 from by decide]; omega) (fun w1 Q' b1 o1 r1 K1 => c54 b1 o1 (by omega) r1 (fun w2 b2 ok2 s2 R2 D2 f2 => K1 w2 b2 ok2 s2 ⟨R2, D2⟩ f2)) (fun w9 w8 b9 ok9 s9 p9 g9 r9 f9 => ?_)
  have D9 : isDD w9 (oo + 1) d00 := D7.c (fun j h1 h2 => f9 j (by omega) (by omega))
  have H9 : isH w9 (oo + 6) 0 (fun j => oo + 6 + 2 + 5 * j) := by
    obtain ⟨x0, kf, x1, x2⟩ := H7
    exact ⟨(f9 _ (by omega) (by omega)).trans x0, kf, (f9 _ (by omega) (by omega)).trans x1, x2⟩
  have I9 : ∀ j, j < 5 → isDD w9 (oo + 6 + 2 + 5 * j) d00 := fun j hj => (I7 j hj).c (fun z h1 h2 => f9 z (by omega) (by omega))
  have X9 : isX w9 (oo + 33) z32 0 0 0 0 0 := ⟨(f9 _ (by omega) (by omega)).trans X7.1, (f9 _ (by omega) (by omega)).trans X7.2⟩
  have R9 : isR w9 (oo + 35) 0 0 0 := (g9 _ (by omega)).trans p9.1
  have T9 : isDD w9 (oo + 36) d00 := p9.2.c (fun j h1 h2 => g9 j (by omega))
  have b9' : w9.1 = oo + 41 := by
    have e : m_mc 54 = 5 := by decide
    rw [e] at b9
    omega
  show Wp 57 _ 48 [.ref oo] [] w9 Q
  rw [q57_48]
  refine st_O (t := 30) (idx := 37) (idx2 := 39) (idx3 := 40) (ci := 2) (ck := 0) (k := 4) (P := fun w2 => ∃ N, isS w2 (oo + 41) 0 0 N z64 z64 z64) ok9 b9' (by omega) hb ho r9 (Nat.le_of_ble_eq_true rfl) (by decide +kernel) rfl (fun w2 => q57_52) (by decide +kernel) rfl rfl (by decide) (by decide) (by decide) (by decide +kernel) rfl rfl rfl (by rw [show m_mc 30 = 9 from by decide]; omega) (fun w1 Q' b1 o1 r1 K1 => c30 b1 o1 (by omega) r1 K1) (fun wb wa bb okb sb pb gb rb fb => ?_)
  have Db : isDD wb (oo + 1) d00 := D9.c (fun j h1 h2 => fb j (by omega) (by omega))
  have Hb : isH wb (oo + 6) 0 (fun j => oo + 6 + 2 + 5 * j) := by
    obtain ⟨x0, kf, x1, x2⟩ := H9
    exact ⟨(fb _ (by omega) (by omega)).trans x0, kf, (fb _ (by omega) (by omega)).trans x1, x2⟩
  have Ib : ∀ j, j < 5 → isDD wb (oo + 6 + 2 + 5 * j) d00 := fun j hj => (I9 j hj).c (fun z h1 h2 => fb z (by omega) (by omega))
  have Xb : isX wb (oo + 33) z32 0 0 0 0 0 := ⟨(fb _ (by omega) (by omega)).trans X9.1, (fb _ (by omega) (by omega)).trans X9.2⟩
  have Rb : isR wb (oo + 35) 0 0 0 := (fb _ (by omega) (by omega)).trans R9
  have Tb : isDD wb (oo + 36) d00 := T9.c (fun j h1 h2 => fb j (by omega) (by omega))
  have bb' : wb.1 = oo + 51 := by
    have e : m_mc 30 = 9 := by decide
    rw [e] at bb
    omega
  obtain ⟨N, z0, ⟨g, z1, z2⟩, z3, z4, z5, z6⟩ := pb
  have Sb : isS wb (oo + 41) 0 0 N z64 z64 z64 := ⟨(gb _ (by omega)).trans z0, ⟨g, (gb _ (by omega)).trans z1, z2⟩, fun i hi => (gb _ (by omega)).trans (z3 i hi), (gb _ (by omega)).trans z4, (gb _ (by omega)).trans z5, (gb _ (by omega)).trans z6⟩
  have mc : m_mc 57 = 50 := by decide
  rw [Wp_retI (by decide +kernel) rfl (by rw [mc]; omega)]
  refine K wb bb' okb (sb.trans (s9.trans (s7.trans (s5.trans s3)))) ⟨rb, Db, ⟨_, Hb, ⟨fun i hi => ⟨(show oo + 6 + 2 ≤ oo + 6 + 2 + 5 * i by omega), (show oo + 6 + 2 + 5 * i + 5 ≤ oo + 33 by omega)⟩, fun i j hi hj hne => (show oo + 6 + 2 + 5 * i + 5 ≤ oo + 6 + 2 + 5 * j ∨ oo + 6 + 2 + 5 * j + 5 ≤ oo + 6 + 2 + 5 * i by omega)⟩, Ib⟩, ⟨0, 0, 0, 0, Xb⟩, ⟨0, 0, 0, d00, Rb, Tb⟩, ⟨0, 0, N, z64, z64, z64, Sb⟩⟩ (fun j hj => by rw [fb _ (by omega) (by omega), f9 _ (by omega) (by omega), f7 _ (by omega) (by omega), f5 _ (by omega) (by omega), f3 _ (by omega) (by omega)])
end CK
