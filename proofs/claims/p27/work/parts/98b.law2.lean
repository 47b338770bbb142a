/-! The law: take, the loop, the end -/
theorem me_1 {d : DD} {i t : Nat} (hn : dn d ≤ 12) (hi : i < dn d) (ht : dt d i = nI (t + 1)) (h6 : t < 6) : ¬ lg_cmp (meA d (nI i) 1) 1 < 0 := by
  have h0 : ¬ dt d i = 0 := by
    rw [ht, show (0 : Int32) = nI 0 from rfl, nI_eq' (by omega) (by omega)]
    omega
  have e : meA d (nI i) 1 = prt 1 (smD d i) (dt d i).toInt64 := by
    unfold meA
    rw [if_pos ⟨hR_nI hn hi, hB_1⟩, cl_nI (by omega), if_neg h0]
  have hD : 0 < ((dt d i).toInt64).toInt := by
    rw [ht, Int32.toInt_toInt64, nI_toInt (by omega)]
    omega
  have hx : (smD d i).toInt ≠ -9223372036854775808 := by
    have := Int32.le_toInt (smF (dm d) (tkF (dt d) i) i)
    unfold smD
    rw [Int32.toInt_toInt64]
    omega
  have h := cd_p hD hx
  rw [lg_cmp_lt, e, Int64.lt_iff_toInt_lt, show (1 : Int64).toInt = 1 from rfl]
  omega
section LZ
variable {b U : Nat} {w0 w : xW} {d : DD} {k ks : Nat} {H : Nat → DD} {Q : Option Value → xW → Prop} {x3 x4 x5 x6 : Int32} {x8 x9 x10 x11 x12 x13 : Value}
/-- take -/
theorem t155d (hz : 0 ≤ x5.toInt) (c11 : x11.category = 1) (I : sI 0 w0 w d k H U) (K : ∀ w2 d2 k2 H2 (y12 y13 : Value), sI 0 w0 w2 d2 k2 H2 U → (k = 5 → k2 = 5) → Wp 155 b 385 [.ref x_scr, .ref 0, .int 1, .int x3, .int x4, .int x5, .int (nI (dn d)), .int (nI ks), x8, x9, x10, x11, y12, y13] [] w2 Q) : Wp 155 b 294 [.ref x_scr, .ref 0, .int 1, .int x3, .int x4, .int x5, .int (nI (dn d)), .int (nI ks), x8, x9, x10, x11, x12, x13] [] w Q := by
  have hn := I.2.1.n
  by_cases c0 : dn d = 0
  · have c : nI (dn d) ≤ 0 := by rw [c0]; decide
    simp only [q155_294, q155_296, if_pos c]
    exact K w d k H _ _ I (fun q => q)
  · have c1 : ¬ nI (dn d) ≤ 0 := by
      rw [nI_z (by omega)]
      exact c0
    have c : ¬ nI (dn d) = 0 := by
      rw [show (0 : Int32) = nI 0 from rfl, nI_eq' (by omega) (by omega)]
      exact c0
    have z16 : ¬ (16 : Int32) = 0 := by decide
    have z2001 : ¬ (2001 : Int32) = 0 := by decide
    obtain ⟨i, hi, ei⟩ := rr (z := x5) (n := dn d) hz (by omega)
    have e2 : rwA d U (nI i) 2 = dt d i := rw_a hn hi (z := 2) (by omega)
    obtain ⟨t1, t2⟩ := I.2.1.t hi
    have q1 := (qr_Z hz (y := 16) (by decide)).1
    rw [show (16 : Int32).toInt = 16 from rfl] at q1
    have q2 := (qr_Z (x := x5 / 16) (y := 2001) (by omega) (by decide)).2
    rw [show (2001 : Int32).toInt = 2001 from rfl] at q2
    have e1000 : (1000 : Int32).toInt = 1000 := rfl
    have q3 := i32_sub (a := x5 / 16 - x5 / 16 / 2001 * 2001) (b := 1000) (by omega) (by omega)
    have hq : -100000 ≤ x5 / 16 - x5 / 16 / 2001 * 2001 - 1000 ∧ x5 / 16 - x5 / 16 / 2001 * 2001 - 1000 ≤ 100000 := i32_rg (by omega)
    simp only [q155_294, q155_296, q155_299, q155_300, q155_302, q155_304, q155_305, q155_306, if_neg c1, c, not_false_eq_true, true_and, ei]
    refine i63 I (fun w I => ?_)
    simp only [rl_some, e2, q155_309 c11, q155_311, q155_312, q155_314, q155_316, q155_317, q155_319, q155_321, q155_322, q155_325, q155_326, q155_329, q155_330, c, z16, z2001, not_false_eq_true, true_and, ei]
    refine b61 I hi hq (fun h6 w I => ?_) (fun w2 k2 H2 h6 I2 re => ?_)
    · have e6 : dt d i = 6 := by rw [t1, h6]; rfl
      simp only [rl_some, q155_333, q155_335, q155_337, q155_339, q155_342, q155_344, q155_346, q155_349, q155_350, if_neg (i32_n e6), if_neg (i32_n (x := -2000000003) rfl), q155_384]
      exact K w d k H _ _ I (fun q => q)
    · have n6 : ¬ dt d i = 6 := by
        rw [t1, show (6 : Int32) = nI 6 from rfl, nI_eq' (by omega) (by omega)]
        omega
      have ht : dt (tkD d i (x5 / 16 - x5 / 16 / 2001 * 2001 - 1000)) i = nI (tkF (dt d) i + 1) := pk_us
      have me := me_1 (d := tkD d i (x5 / 16 - x5 / 16 / 2001 * 2001 - 1000)) hn hi ht h6
      simp only [rl_some, q155_333, q155_335, q155_337, q155_339, if_pos n6, q155_357, q155_359, q155_361, q155_364, q155_365, q155_367, q155_369, q155_370, q155_371, if_neg (i32_n t1.symm), c, not_false_eq_true, true_and, ei]
      refine i72 I2 (fun w I => ?_)
      simp only [rl_some, q155_374, q155_375, q155_376, q155_379, q155_380, if_neg me, q155_384]
      exact K w _ k2 H2 _ _ I (fun q => re_5 re q)
theorem l155 (hL : w0.2.2.1 ≤ 1000) (KE : ∀ w2 d2 k2 H2 U2 (y3 : Int32) (y4 y5 y6 y7 y8 y9 y10 y11 y12 y13 : Value), sI 0 w0 w2 d2 k2 H2 U2 → Wp 155 b 428 [.ref x_scr, .ref 0, .int 1, .int y3, y4, y5, y6, y7, y8, y9, y10, y11, y12, y13] [] w2 Q) : ∀ (t c : Nat) (w : xW) (d : DD) (k : Nat) (H : Nat → DD) (U : Nat) (x4 x5 x6 x7 x8 x9 x10 x11 x12 x13 : Value), c + t = 30 → x10.category = 1 → x11.category = 1 → sI 0 w0 w d k H U → Wp 155 b 40 [.ref x_scr, .ref 0, .int 1, .int (nI c), x4, x5, x6, x7, x8, x9, x10, x11, x12, x13] [] w Q := by
  have z1 : ¬ (1 : Int32) = 0 := by decide
  have z6 : ¬ (6 : Int32) = 0 := by decide
  intro t
  induction t with
  | zero =>
    intro c w d k H U x4 x5 x6 x7 x8 x9 x10 x11 x12 x13 hc c10 c11 I
    have e : c = 30 := by omega
    subst e
    have h : (30 : Int32) ≤ nI 30 := by decide
    simp only [q155_40, q155_41, q155_43, if_pos h]
    exact KE w d k H U _ _ _ _ _ _ _ _ _ _ _ I
  | succ t ih =>
    intro c w d k H U x4 x5 x6 x7 x8 x9 x10 x11 x12 x13 hc c10 c11 I
    have h : ¬ (30 : Int32) ≤ nI c := by rw [show (30 : Int32) = nI 30 from rfl, nI_le' (by omega) (by omega)]; omega
    have e20 : 20 + nI c = nI (20 + c) := by rw [show (20 : Int32) = nI 20 from rfl, nI_add]
    have e3 : cnA d k 0 U 3 = nI (dn d) := cn_a (z := 3) (by omega)
    have e11 : cnA d k 0 U 11 = nI k := cn_a (z := 11) (by omega)
    have hk5 : k ≤ 5 := I.2.1.2.1
    have hy := ce_nn w0.2.2 (20 + c)
    rw [q155_40]
    simp only [q155_41, q155_43, q155_46, q155_47, q155_50, q155_51, q155_53, q155_54, q155_55, if_neg h, if_neg z1, e20]
    refine x92 I (by omega) hL ?_
    generalize ceF w0.2.2 (20 + c) = y at hy ⊢
    have hz : 0 ≤ (y / 6).toInt := by
      rw [(qr_Z hy (y := 6) (by decide)).1]
      exact Int.ediv_nonneg hy (by decide)
    simp only [rl_some, q155_58, q155_60, q155_62, q155_64, q155_65, q155_67, q155_68, q155_69, z6, not_false_eq_true, true_and]
    refine i66 I (fun w I => ?_)
    simp only [rl_some, e3, q155_72, q155_74, q155_75, q155_77]
    refine i66 I (fun w I => ?_)
    simp only [rl_some, e11, q155_80, q155_82, q155_84, q155_86, z6, not_false_eq_true, true_and]
    rcases x_04c y hy with e | e | e | e | e
    · rw [e, q155_87_c0]
      exact t155a hz I (fun w2 d2 k2 H2 y8 y9 y10 I2 hk => t155e I2 hk5 hk (fun w I => by rw [nI_1]; exact ih (c + 1) w d2 k2 H2 U _ _ _ _ _ _ _ _ _ _ (by omega) rfl c11 I))
    · rw [e, q155_87_c1]
      exact t155a hz I (fun w2 d2 k2 H2 y8 y9 y10 I2 hk => t155e I2 hk5 hk (fun w I => by rw [nI_1]; exact ih (c + 1) w d2 k2 H2 U _ _ _ _ _ _ _ _ _ _ (by omega) rfl c11 I))
    · rw [e, q155_87_c2]
      exact t155b hz c10 I (fun w2 d2 k2 H2 U2 y11 I2 hk => t155e I2 hk5 hk (fun w I => by rw [nI_1]; exact ih (c + 1) w d2 k2 H2 U2 _ _ _ _ _ _ _ _ _ _ (by omega) c10 rfl I))
    · rw [e, q155_87_c3]
      exact t155c hz I (fun w2 d2 k2 H2 I2 hk => t155e I2 hk5 hk (fun w I => by rw [nI_1]; exact ih (c + 1) w d2 k2 H2 U _ _ _ _ _ _ _ _ _ _ (by omega) c10 c11 I))
    · rw [q155_87_d e]
      exact t155d hz c11 I (fun w2 d2 k2 H2 y12 y13 I2 hk => t155e I2 hk5 hk (fun w I => by rw [nI_1]; exact ih (c + 1) w d2 k2 H2 U _ _ _ _ _ _ _ _ _ _ (by omega) c10 c11 I))
theorem b67 {oo k0 U' : Nat} {d' : DD} (I : sI oo w0 w d k H U) (hk : k = k0 + 1) (E : eqD (H k0) d') (g : vG d' U') (p : vP d') (K : ∀ w2 d2, sI oo w0 w2 d2 k0 H U' → eqD d2 d' → Q (some (.int (nI k0))) w2) : x_isO (rd w oo) 5 ∧ Wp 67 b 0 [.ref oo] [] w Q := by
  obtain ⟨⟨f, C⟩, v, -, -⟩ := I
  refine ⟨⟨_, C.1⟩, c67 C v (fun q => absurd q (by omega)) (fun k2 w2 d2 e f2 C2 E2 => ?_)⟩
  have e2 : k2 = k0 := by omega
  subst e2
  have E3 := E2.tr E
  obtain ⟨-, vk, vh, vx⟩ := v
  exact K w2 d2 ⟨⟨f.tr f2, C2⟩, ⟨E3.v g.1, by omega, fun i hi => vh i (by omega), vx⟩, vG_eq E3 g, vP_eq E3 p⟩ E3
/-- the end: a change undone -/
theorem t155z {y3 : Int32} {y4 y5 y6 y7 y8 y9 y10 y11 y12 y13 : Value} (I : sI 0 w0 w d k H U) (K : ∀ w2, Q (some (.int 1)) w2) : Wp 155 b 428 [.ref x_scr, .ref 0, .int 1, .int y3, y4, y5, y6, y7, y8, y9, y10, y11, y12, y13] [] w Q := by
  have z1 : ¬ (1 : Int32) = 0 := by decide
  have e0 : ∀ d k U, cnA d k 0 U 0 = ds d := fun d k U => cn_a (z := 0) (by omega)
  have g0 : geD d 0 = ds d := rfl
  have hk5 : k ≤ 5 := I.2.1.2.1
  have g := I.2.2.1
  have p := I.2.2.2
  simp only [q155_428, q155_429, q155_430]
  refine i66 I (fun w I => ?_)
  simp only [rl_some, e0, q155_433, q155_434, q155_435, q155_438, q155_439, q155_440, q155_442, if_neg z1]
  refine b58 I (Or.inl ⟨rfl, by decide⟩) (fun w k2 H2 U2 I re => ?_)
  have es : ds (stD d 0 77) = 77 := rfl
  simp only [rl_some, g0, q155_445, q155_446, q155_449, q155_450, q155_451, if_neg (i32_n (x := ds d) rfl)]
  refine i66 I (fun w I => ?_)
  obtain ⟨k0, hk0⟩ : ∃ k0, k2 = k0 + 1 := ⟨k2 - 1, by
    have := re.1
    split at this <;> omega⟩
  have Eh : eqD (H2 k0) d := by
    have h := re.2 k0 (by omega)
    rw [if_pos (by omega)] at h
    exact h
  simp only [rl_some, e0, es, q155_454, q155_456, q155_459, q155_460, if_neg (i32_n (x := 77) rfl)]
  refine b67 I hk0 Eh g p (fun w d2 I E => ?_)
  have hk2 : k0 ≤ 5 := I.2.1.2.1
  have pos : ¬ nI k0 < 0 := nI_pos (by omega)
  simp only [rl_some, q155_463, q155_466, q155_467, q155_468, if_neg pos]
  refine i66 I (fun w I => ?_)
  have e2 : ds d2 = ds d := E.s.1
  simp only [rl_some, e0, e2, q155_471, q155_472, q155_475, q155_476, q155_479, q155_480, q155_481, q155_482, q155_485, q155_486, if_neg (i32_n (x := ds d) rfl), if_neg z1]
  refine i93 I (fun w I => ?_)
  simp only [rl_some, q155_489, q155_492, q155_493, if_neg z1]
  rw [q155_497]
  exact ⟨Or.inr rfl, K w⟩
end LZ
