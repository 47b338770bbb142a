/-! The law from its start -/
theorem cW_c {oo : Nat} {w w2 : xW} {d : DD} {k len : Nat} {H : Nat → DD} {cf : Nat → Int32} (C2 : cW oo w d k H cf len) (g : ∀ j, oo ≤ j → j < oo + 51 → rd w2 j = rd w j) : cW oo w2 d k H cf len := by
  obtain ⟨h0, D, ⟨K, a1, a2, a3⟩, ⟨l, r, a, nx, X⟩, ⟨e, p, rs, dd, R, T⟩, ⟨u, det, N, S, M, V, Z⟩⟩ := C2
  obtain ⟨x0, kf, x1, x2⟩ := a1
  obtain ⟨z0, ⟨gg, z1, z2⟩, z3, z4, z5, z6⟩ := Z
  exact ⟨(g oo (by omega) (by omega)).trans h0, D.c (fun j _ _ => g j (by omega) (by omega)), ⟨K, ⟨(g _ (by omega) (by omega)).trans x0, kf, (g _ (by omega) (by omega)).trans x1, x2⟩, a2, fun i hi => (a3 i hi).c (fun j h1 h2 => g j (by have := (a2.1 i hi).1; omega) (by have := (a2.1 i hi).2; omega))⟩, ⟨l, r, a, nx, (g _ (by omega) (by omega)).trans X.1, (g _ (by omega) (by omega)).trans X.2⟩, ⟨e, p, rs, dd, (g _ (by omega) (by omega)).trans R, T.c (fun j _ _ => g j (by omega) (by omega))⟩, ⟨u, det, N, S, M, V, (g _ (by omega) (by omega)).trans z0, ⟨gg, (g _ (by omega) (by omega)).trans z1, z2⟩, fun i hi => (g _ (by omega) (by omega)).trans (z3 i hi), (g _ (by omega) (by omega)).trans z4, (g _ (by omega) (by omega)).trans z5, (g _ (by omega) (by omega)).trans z6⟩⟩
theorem w94 {pc : Nat} {n : Int32} {ls : List Value} {w : xW} {Q : Option Value → xW → Prop} (hd : decode (m_bc 155) pc = .ok (.invokestatic 70, 3)) (hw : x_wf w ls [] = true) (h1 : w.1 + 51 ≤ 600) : Wp 155 0 pc ls [.int n, .ref x_scr] w Q ↔ Wp 94 w.1 0 [.ref x_scr, .int n, x_no, x_no, x_no, x_no, x_no] [] w (fun o1 w1 => Wp 155 0 (pc + 3) ls (rl o1 []) w1 Q) := Wp_call (i := .invokestatic 70) (t := 94) (as := [.ref x_scr, .int n]) (r := []) hd (by
  have e : xs 155 0 pc (.invokestatic 70) ls [.int n, .ref x_scr] w = x_call 155 0 94 [.ref x_scr, .int n] [] ls w := rfl
  rw [e]
  have mc : m_mc 94 = 51 := by decide
  have mc2 : m_mc 155 = 600 := by decide
  unfold x_call
  rw [if_pos ⟨by decide, ⟨by decide, fun _ => by decide⟩, Nat.le_of_ble_eq_true rfl, by decide, Nat.le_of_ble_eq_true rfl, Or.inr ⟨by rw [mc, mc2]; omega, hw, wv_c wv_sc (wv_c rfl rfl)⟩⟩])
theorem law_run (L : Nat) (sc : Nat → Int32) (hL : L ≤ 260) : xLaw L sc := by
  have G : Wp 155 0 0 [.ref x_scr, x_no, x_no, x_no, x_no, x_no, x_no, x_no, x_no, x_no, x_no, x_no, x_no, x_no] [] (x_w0 L sc) (fun o _ => o = some (.int 1)) := by
    have z1 : ¬ (1 : Int32) = 0 := by decide
    have ok0 : okR (x_w0 L sc) := ⟨fun k => rfl, fun k _ => rfl, show (0 : Nat) < 1000000 by decide⟩
    refine st_new (y := 155) (b := 0) (w := x_w0 L sc) ok0 (show (0 : Nat) + 80 < 1000 by decide) (wv_c wv_sc rfl) (Nat.le_refl _) (by rw [show m_mc 155 = 600 from by decide]; exact (show (0 : Nat) - 0 + 51 ≤ 600 by decide)) (by decide) (by decide +kernel) rfl (fun w a => q155_3) (by decide +kernel) rfl (fun w1 b1 s1 C1 _ ok1 => ?_)
    have C1' : cW 0 w1 d00 0 (fun _ => d00) z32 0 := C1
    have b1' : w1.1 = 51 := b1
    have I1 : sI 0 w1 w1 d00 0 (fun _ => d00) 4 := ⟨⟨fr.rf, C1'⟩, v00, g00, p00⟩
    have hs1 : w1.2.2 = (L, sc) := s1
    show Wp 155 0 7 [.ref x_scr, x_no, x_no, x_no, x_no, x_no, x_no, x_no, x_no, x_no, x_no, x_no, x_no, x_no] [.ref 0] w1 _
    have rw1 : ∀ w : xW, w.1 = 51 → x_wfv w.1 (.ref 0) = true := fun w h => wfv_ref (by omega)
    simp only [q155_7, q155_8, q155_9]
    refine Wp_cut ok1 (wv_c (rw1 w1 b1') rfl) rfl ?_
    refine i93 I1 (fun w2 I2 ok2 => ?_)
    have b2 : w2.1 = 51 := I2.1.1.1.trans b1'
    have hs2 : w2.2.2 = (L, sc) := I2.1.1.2.1.trans hs1
    simp only [rl_some, q155_12, q155_15, q155_16, if_neg z1]
    have wf2 : ∀ w : xW, okR w → w.1 < 1000 → 51 ≤ w.1 → x_wf w [.ref x_scr, .ref 0, x_no, x_no, x_no, x_no, x_no, x_no, x_no, x_no, x_no, x_no, x_no, x_no] [] = true := fun w ok h h2 => wf_of ⟨fun k _ => ok.1 k, h⟩ (wv_c wv_sc (wv_c (wfv_ref (by omega)) rfl)) rfl
    rw [w94 (pc := 17) (by decide +kernel) (wf2 w2 ok2 (by omega) (by omega)) (by omega)]
    refine Wp_cut ok2 (wv_c wv_sc rfl) rfl ?_
    refine c94 (ff := 0) (by omega) ok2 (by rw [hs2]; show L ≤ 1000; omega) (by omega) (fun w3 b3 s3 f3 ok3 => ?_)
    have b3' : w3.1 = 102 := by omega
    have hs3 : w3.2.2 = (L, sc) := s3.trans hs2
    simp only [rl_some]
    show Wp 155 0 20 [.ref x_scr, .ref 0, x_no, x_no, x_no, x_no, x_no, x_no, x_no, x_no, x_no, x_no, x_no, x_no] [.int 1] w3 _
    simp only [q155_20, q155_23, q155_24, if_neg z1]
    rw [w94 (pc := 26) (by decide +kernel) (wf2 w3 ok3 (by omega) (by omega)) (by omega)]
    refine Wp_cut ok3 (wv_c wv_sc rfl) rfl ?_
    refine c94 (ff := 10) (by omega) ok3 (by rw [hs3]; show L ≤ 1000; omega) (by omega) (fun w4 b4 s4 f4 _ => ?_)
    have hs4 : w4.2.2 = (L, sc) := s4.trans hs3
    simp only [rl_some]
    show Wp 155 0 29 [.ref x_scr, .ref 0, x_no, x_no, x_no, x_no, x_no, x_no, x_no, x_no, x_no, x_no, x_no, x_no] [.int 1] w4 _
    simp only [q155_29, q155_32, q155_33, q155_37, q155_38, q155_39, if_neg z1]
    have C4 : cW 0 w4 d00 0 (fun _ => d00) z32 0 := cW_c I2.1.2 (fun j _ hj => (f4 j (by omega)).trans (f3 j (by omega)))
    have I4 : sI 0 w4 w4 d00 0 (fun _ => d00) 4 := ⟨⟨fr.rf, C4⟩, v00, g00, p00⟩
    exact l155 (w0 := w4) (by rw [hs4]; show L ≤ 1000; omega) (fun w d k H U y3 y4 y5 y6 y7 y8 y9 y10 y11 y12 y13 I => t155z I (fun _ => rfl)) 30 0 w4 d00 0 (fun _ => d00) 4 x_no x_no x_no x_no x_no x_no x_no x_no x_no x_no (by omega) rfl rfl I4
  obtain ⟨n, o, w2, h, rfl⟩ := G
  exact ⟨n, w2, h⟩
