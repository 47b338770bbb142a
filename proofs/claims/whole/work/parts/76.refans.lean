/-! The reference's answers, as the same functions of its design -/
/-- what the fractions need: determinants above 0 (unless 0), no numerator is the least long -/
def okF (d : DD) (U : Nat) : Prop := (¬ deD d U = 0 → 0 < (deD d U).toInt) ∧ (∀ a, a < U → (nuD d U a).toInt ≠ -9223372036854775808) ∧ (∀ i j, i < dn d → j < tkF (dt d) i → (rsD d U i j).toInt ≠ -9223372036854775808) ∧ (∀ a, hA a → (blD d U a).toInt ≠ -9223372036854775808) ∧ (∀ i j, i < dn d → j < tkF (dt d) i → (¬ deO d U i = 0 → 0 < (deO d U i).toInt) ∧ ∀ z, z < U → (nuO d U i j z).toInt ≠ -9223372036854775808) ∧ (∀ i j, i < dn d → j < dn d → (mnF (dt d) (dm d) i j).toInt ≠ -9223372036854775808)
def iM (m : xM) (n U : Nat) : Prop := vM m.df n ∧ vR n (tD m.df) (mD m.df) ∧ vS n (lD m.df) (rD m.df) ∧ isU (m.df 1) U ∧ m.wr = -1 ∧ m.wd = -1 ∧ okF (dOf n m.df) U
theorem rwA_ok {e : DD} {U i z : Nat} {r a : Int32} (hn : dn e ≤ 12) (hi : i < dn e) (er : r = nI i) (hz : z < 5) (ea : a = nI z) : rwA e U r a = rwZ e U i z := by
  subst er
  subst ea
  have h1 : hR e (nI i) := ⟨nI_pos (by omega), (nI_lt' (by omega) (by omega)).mpr hi⟩
  have h2 : hA (nI z) := by
    rcases (show z = 0 ∨ z = 1 ∨ z = 2 ∨ z = 3 ∨ z = 4 by omega) with rfl | rfl | rfl | rfl | rfl <;> decide
  unfold rwA
  rw [if_pos ⟨h1, h2⟩, cl_nI (by omega), cl_nI (by omega)]
theorem hR_of {e : DD} {i : Nat} {r : Int32} (hn : dn e ≤ 12) (hi : i < dn e) (er : r = nI i) : hR e r ∧ r.toNatClampNeg = i := by
  subst er
  exact ⟨⟨nI_pos (by omega), (nI_lt' (by omega) (by omega)).mpr hi⟩, cl_nI (by omega)⟩
theorem hG_of {e : DD} {i j : Nat} {r q : Int32} (v : vD e) (hi : i < dn e) (hj : j < tkF (dt e) i) (er : r = nI i) (eq : q = nI j) : hG e r q ∧ r.toNatClampNeg = i ∧ q.toNatClampNeg = j := by
  have hn : dn e ≤ 12 := v.1
  obtain ⟨t1, t2⟩ : dt e i = nI (tkF (dt e) i) ∧ tkF (dt e) i ≤ 6 := v.2 i hi
  obtain ⟨h1, h2⟩ := hR_of hn hi er
  refine ⟨⟨h1, ?_⟩, h2, by rw [eq]; exact cl_nI (by omega)⟩
  rw [h2, t1, eq]
  exact ⟨nI_pos (by omega), (nI_lt' (by omega) (by omega)).mpr hj⟩
theorem hA_of {z : Nat} {a : Int32} (hz : z < 5) (ea : a = nI z) : hA a ∧ a.toNatClampNeg = z := by
  subst ea
  refine ⟨?_, cl_nI (by omega)⟩
  rcases (show z = 0 ∨ z = 1 ∨ z = 2 ∨ z = 3 ∨ z = 4 by omega) with rfl | rfl | rfl | rfl | rfl <;> decide
section RA
variable {w : xW} {b : Nat} {m : xM} {n U : Nat} {Q : Option Value → xW → Prop}
theorem iM.de (I : iM m n U) : dtF U (mN m n) = deD (dOf n m.df) U := dtF_congr I.2.2.2.1.2 (fun r c _ _ => mN_gN I.1 I.2.2.2.2.1 r c)
theorem iM.nu (I : iM m n U) (a : Nat) : dtF U (enF (nI a) (mN m n) (mS m n)) = nuD (dOf n m.df) U a := dtF_congr I.2.2.2.1.2 (fun r c _ _ => enF_c (fun i j => mN_gN I.1 I.2.2.2.2.1 i j) (fun i => mS_gS I.1 I.2.1 I.2.2.2.2.1 i) r c)
theorem iM.dx (I : iM m n U) {r : Nat} (hr : r < n) : dtF U (mN (m.s_wr (nI r)) n) = deX (dOf n m.df) U r := dtF_congr I.2.2.2.1.2 (fun i c _ _ => mN_gNx I.1 I.2.2.2.2.2.1 hr i c)
theorem iM.do1 (I : iM m n U) {r k : Nat} (hr : r < n) (hk : k < tkF (tD m.df) r) : dtF U (mN (m1o m r k) n) = deO (dOf n m.df) U r := dtF_congr I.2.2.2.1.2 (fun i c _ _ => mN_gN1 I.1 hr hk i c)
theorem iM.no1 (I : iM m n U) {r k : Nat} (hr : r < n) (hk : k < tkF (tD m.df) r) (a : Nat) : dtF U (enF (nI a) (mN (m1o m r k) n) (mS (m1o m r k) n)) = nuO (dOf n m.df) U r k a := dtF_congr I.2.2.2.1.2 (fun i c _ _ => enF_c (fun i j => mN_gN1 I.1 hr hk i j) (fun i => mS_gS1 I.1 I.2.1 hr hk i) i c)
theorem iM.vd (I : iM m n U) : vD (dOf n m.df) := I.1.2
theorem r120 {r a : Int32} (D : isM w m) (I : iM m n U) (K : ∀ w2 m2, fr w w2 51 60 → isM w2 m2 → kM m m2 → Q (some (.int (rwA (dOf n m.df) U r a))) w2) : Wp 120 b 0 [.ref 51, .int r, .int a] [] w Q := by
  have hn : n ≤ 12 := I.1.2.1
  refine c120 D I.1 I.2.2.2.1.1 I.2.2.2.1.2 I.2.2.2.2.1 (fun c => ?_) (fun i hi er ea => ?_) (fun i hi er ea => ?_) (fun i hi er ea => ?_) (fun i hi er ea => ?_) (fun i w2 m2 hi er ea f2 D2 k2 => ?_)
  · have KK := K w m fr.rf D kM.rf
    unfold rwA at KK
    rw [if_neg (show ¬ (hR (dOf n m.df) r ∧ hA a) from c)] at KK
    exact KK
  · have KK := K w m fr.rf D kM.rf
    rw [rwA_ok (z := 0) (e := dOf n m.df) hn hi er (by omega) ea] at KK
    exact KK
  · have KK := K w m fr.rf D kM.rf
    rw [rwA_ok (z := 1) (e := dOf n m.df) hn hi er (by omega) ea] at KK
    exact KK
  · have KK := K w m fr.rf D kM.rf
    rw [rwA_ok (z := 2) (e := dOf n m.df) hn hi er (by omega) ea] at KK
    exact KK
  · have KK := K w m fr.rf D kM.rf
    rw [rwA_ok (z := 3) (e := dOf n m.df) hn hi er (by omega) ea] at KK
    exact KK
  · have KK := K w2 m2 f2 D2 k2
    rw [rwA_ok (z := 4) (e := dOf n m.df) hn hi er (by omega) ea] at KK
    have e : bI (neM m n U i) = rwZ (dOf n m.df) U i 4 := by
      simp only [rwZ]
      exact bI_congr (by unfold neM; rw [I.de, I.dx hi])
    rw [e]
    exact KK
theorem r121 {r q : Int32} (D : isM w m) (I : iM m n U) (K : ∀ w2 m2, fr w w2 51 60 → isM w2 m2 → kM m m2 → Q (some (.int (rdA (dOf n m.df) r q))) w2) : Wp 121 b 0 [.ref 51, .int r, .int q] [] w Q := by
  have KK := K w m fr.rf D kM.rf
  refine c121 D I.1 (fun c => ?_) (fun i j hi hj er eq => ?_)
  · unfold rdA at KK
    rw [if_neg (show ¬ hG (dOf n m.df) r q from c)] at KK
    exact KK
  · obtain ⟨g, e1, e2⟩ := hG_of I.vd hi hj er eq
    unfold rdA at KK
    rw [if_pos g, e1, e2] at KK
    exact KK
theorem r122 {x y : Int32} (D : isM w m) (I : iM m n U) (K : ∀ w2 m2, fr w w2 51 60 → isM w2 m2 → kM m m2 → Q (some (.int (fiA (dOf n m.df) x y))) w2) : Wp 122 b 0 [.ref 51, .int x, .int y, x_no] [] w Q := by
  have KK := K w m fr.rf D kM.rf
  unfold fiA at KK
  refine c122 D I.1 (fun c => ?_) (fun c => ?_)
  · rw [if_neg c] at KK
    exact KK
  · rw [if_pos c] at KK
    exact KK
theorem ct_cn (I : iM m n U) {z : Nat} (hz : z < 14) : ctM m n U z = cnZ (dOf n m.df) m.st m.ty U z := by
  rcases (show z = 0 ∨ z = 1 ∨ z = 2 ∨ z = 3 ∨ z = 4 ∨ z = 5 ∨ z = 6 ∨ z = 7 ∨ z = 8 ∨ z = 9 ∨ z = 10 ∨ z = 11 ∨ z = 12 ∨ z = 13 by omega) with rfl | rfl | rfl | rfl | rfl | rfl | rfl | rfl | rfl | rfl | rfl | rfl | rfl | rfl
  · simp only [ctM, cnZ]
    rfl
  · simp only [ctM, cnZ]
    rfl
  · simp only [ctM, cnZ]
    rfl
  · simp only [ctM, cnZ]
    exact I.1.1
  · simp only [ctM, cnZ]
    rfl
  · simp only [ctM, cnZ]
    rw [I.de]
  · simp only [ctM, cnZ]
    rfl
  · simp only [ctM, cnZ]
    rfl
  · simp only [ctM, cnZ]
    rfl
  · simp only [ctM, cnZ]
    rfl
  · simp only [ctM, cnZ]
    exact (fa_bc I.1 I.2.2.1).symm
  · simp only [ctM, cnZ]
  · simp only [ctM, cnZ]
  · simp only [ctM, cnZ]
    by_cases c : deD (dOf n m.df) U = 0
    · rw [if_pos c]
      have : ∀ (k i : Nat) (a : Int32), foldN (fun a i => a + bI (neM m n U i)) k i a = a := by
        intro k
        induction k with
        | zero => intro i a; rfl
        | succ k ih =>
          intro i a
          show foldN (fun a i => a + bI (neM m n U i)) k (i + 1) (a + bI (neM m n U i)) = a
          rw [ih, bI_f (fun q => q.1 (by rw [I.de]; exact c))]
          exact Int32.add_zero a
      exact this n 0 0
    · rw [if_neg c]
      refine foldN_congr n 0 0 (fun a j _ hj => ?_)
      have e : neM m n U j ↔ deX (dOf n m.df) U j = 0 := by
        unfold neM
        rw [I.de, I.dx (by omega)]
        exact ⟨fun q => q.2, fun q => ⟨c, q⟩⟩
      by_cases c2 : deX (dOf n m.df) U j = 0
      · rw [bI_t (e.mpr c2), if_pos c2]
      · rw [bI_f (fun q => c2 (e.mp q)), if_neg c2]
        exact Int32.add_zero a
theorem r127 {a : Int32} (D : isM w m) (I : iM m n U) (K : ∀ w2 m2, fr w w2 51 60 → isM w2 m2 → kM m m2 → Q (some (.int (cnA (dOf n m.df) m.st m.ty U a))) w2) : Wp 127 b 0 [.ref 51, .int a] [] w Q := by
  refine c127 D I.1 I.2.1 I.2.2.2.1.1 I.2.2.2.1.2 I.2.2.2.2.1 (fun c => ?_) (fun i w2 m2 hi ea f2 D2 k2 => ?_)
  · have KK := K w m fr.rf D kM.rf
    unfold cnA at KK
    rw [if_pos c] at KK
    exact KK
  · have KK := K w2 m2 f2 D2 k2
    unfold cnA at KK
    have e : (nI i).toInt = i := nI_toInt (by omega)
    rw [ea, if_neg (by rw [e]; omega), cl_nI (by omega), ← ct_cn I hi] at KK
    exact KK
theorem r129 {a t : Int32} (D : isM w m) (I : iM m n U) (K : ∀ w2 m2, fr w w2 51 60 → isM w2 m2 → kM m m2 → Q (some (.long (vaA (dOf n m.df) U a t))) w2) : Wp 129 b 0 [.ref 51, .int a, .int t] [] w Q := by
  obtain ⟨F1, F2, -⟩ := I.2.2.2.2.2.2
  unfold vaA at K
  refine c129 D I.1 I.2.2.2.1.1 I.2.2.2.1.2 (by rw [I.de]; exact F1) (fun a ha => by rw [I.nu]; exact F2 a ha) (fun c => ?_) (fun w2 m2 c e f2 D2 k2 => ?_) (fun w2 m2 ea c e f2 D2 k2 => ?_) (fun i w2 m2 hi ea c e f2 D2 k2 => ?_)
  · have KK := K w m fr.rf D kM.rf
    rw [if_neg c] at KK
    exact KK
  · have KK := K w2 m2 f2 D2 k2
    rw [if_pos c, if_pos (by rw [← I.de]; exact e)] at KK
    exact KK
  · have KK := K w2 m2 f2 D2 k2
    rw [if_pos ⟨by rw [ea]; decide, c⟩, if_neg (by rw [← I.de]; exact e), if_pos ea] at KK
    exact KK
  · have KK := K w2 m2 f2 D2 k2
    obtain ⟨h1, h2⟩ := hA_of (z := i + 1) (by omega) ea
    have n0 : ¬ a = 0 := by
      rw [ea]
      exact fun q => absurd ((nI_eq' (b := 0) (by omega) (by omega)).mp q) (by omega)
    rw [if_pos ⟨h1, c⟩, if_neg (by rw [← I.de]; exact e), if_neg n0, h2, Nat.add_sub_cancel, ← I.nu, ← I.de] at KK
    exact KK
theorem prt_0 {t : Int32} {d : Int64} (hd : 0 < d.toInt) : prt t 0 d = prt t 0 1 := by
  have e1 : cdF d 0 = d := by
    have h := cd_gcd (d := d) (x := 0) hd (by decide)
    rw [show (0 : Int64).toInt = 0 from rfl, Int.gcd_zero_right] at h
    refine Int64.toInt_inj.mp ?_
    rw [h]
    omega
  have e2 : cdF 1 0 = 1 := by
    have h := cd_gcd (d := 1) (x := 0) (by decide) (by decide)
    refine Int64.toInt_inj.mp ?_
    rw [h]
    rfl
  have hd0 : d ≠ 0 := fun q => by rw [q] at hd; exact absurd hd (by decide)
  unfold prt
  rw [e1, e2]
  by_cases c : t = 0
  · rw [if_pos c, if_pos c]
    refine Int64.toInt_inj.mp ?_
    rw [Int64.toInt_div]
    simp
  · rw [if_neg c, if_neg c]
    refine Int64.toInt_inj.mp ?_
    rw [Int64.toInt_div, Int.tdiv_self (by omega)]
    rfl
theorem r130 {t : Int32} (D : isM w m) (I : iM m n U) (K : ∀ w2 m2, fr w w2 51 60 → isM w2 m2 → kM m m2 → Q (some (.long (paA (dOf n m.df) U t))) w2) : Wp 130 b 0 [.ref 51, .int t] [] w Q := by
  obtain ⟨F1, F2, -⟩ := I.2.2.2.2.2.2
  unfold paA at K
  refine c130 D I.1 I.2.2.2.1.1 I.2.2.2.1.2 (by rw [I.de]; exact F1) (fun a ha => by rw [I.nu]; exact F2 a ha) (fun c => ?_) (fun w2 m2 c e f2 D2 k2 => ?_) (fun w2 m2 c e f2 D2 k2 => ?_)
  · have KK := K w m fr.rf D kM.rf
    rw [if_neg c] at KK
    exact KK
  · have KK := K w2 m2 f2 D2 k2
    rw [if_pos c, if_pos (by rw [← I.de]; exact e)] at KK
    exact KK
  · have KK := K w2 m2 f2 D2 k2
    rw [if_pos c, if_neg (by rw [← I.de]; exact e)] at KK
    rw [I.de, I.nu]
    by_cases c4 : U = 4
    · rw [if_pos c4] at KK
      rw [if_pos c4, prt_0 (F1 (by rw [← I.de]; exact e))]
      exact KK
    · rw [if_neg c4] at KK
      rw [if_neg c4]
      exact KK
theorem r131 {r q t : Int32} (D : isM w m) (I : iM m n U) (K : ∀ w2 m2, fr w w2 51 60 → isM w2 m2 → kM m m2 → Q (some (.long (reA (dOf n m.df) U r q t))) w2) : Wp 131 b 0 [.ref 51, .int r, .int q, .int t] [] w Q := by
  obtain ⟨F1, F2, F3, -⟩ := I.2.2.2.2.2.2
  unfold reA at K
  refine c131 D I.1 I.2.2.2.1.1 I.2.2.2.1.2 (by rw [I.de]; exact F1) (V := nuD (dOf n m.df) U) (fun a _ => (I.nu a).symm) (fun i j hi hj => by rw [I.de]; exact F3 i j hi hj) (fun c => ?_) (fun w2 m2 c e f2 D2 k2 => ?_) (fun i j w2 m2 hi hj er eq c e f2 D2 k2 => ?_)
  · have KK := K w m fr.rf D kM.rf
    rw [if_neg (show ¬ (hG (dOf n m.df) r q ∧ hB t) from c)] at KK
    exact KK
  · have KK := K w2 m2 f2 D2 k2
    rw [if_pos (show hG (dOf n m.df) r q ∧ hB t from c), if_pos (by rw [← I.de]; exact e)] at KK
    exact KK
  · have KK := K w2 m2 f2 D2 k2
    obtain ⟨g, e1, e2⟩ := hG_of I.vd hi hj er eq
    rw [if_pos ⟨g, c⟩, if_neg (by rw [← I.de]; exact e), e1, e2] at KK
    rw [I.de]
    exact KK
theorem r132 {a t : Int32} (D : isM w m) (I : iM m n U) (K : ∀ w2 m2, fr w w2 51 60 → isM w2 m2 → kM m m2 → Q (some (.long (baA (dOf n m.df) U a t))) w2) : Wp 132 b 0 [.ref 51, .int a, .int t, x_no, x_no, x_no, x_no] [] w Q := by
  obtain ⟨F1, F2, F3, F4, -⟩ := I.2.2.2.2.2.2
  unfold baA at K
  by_cases ha : hA a
  · refine c132 D I.1 I.2.2.2.1.1 I.2.2.2.1.2 (by rw [I.de]; exact F1) (V := nuD (dOf n m.df) U) (fun a _ => (I.nu a).symm) (by rw [I.de]; exact F4 a ha) (fun c => ?_) (fun w2 m2 c e f2 D2 k2 => ?_) (fun w2 m2 c e f2 D2 k2 => ?_)
    · have KK := K w m fr.rf D kM.rf
      rw [if_neg c] at KK
      exact KK
    · have KK := K w2 m2 f2 D2 k2
      rw [if_pos c, if_pos (by rw [← I.de]; exact e)] at KK
      exact KK
    · have KK := K w2 m2 f2 D2 k2
      rw [if_pos c, if_neg (by rw [← I.de]; exact e)] at KK
      rw [I.de]
      exact KK
  · have KK := K w m fr.rf D kM.rf
    rw [if_neg (fun q => ha q.1)] at KK
    have z1 : ¬ (1 : Int32) = 0 := by decide
    have h0 := D.1
    simp only [q132_0, q132_1, q132_2, q132_3, q132_6, q132_9, q132_10, q132_13, q132_16, q132_19, q132_20, gF0, gF1, gF2, gF3, gF4, gF5, gF6, gF7, gF8, gF9, gF10, gF11, gF12, gF13, gF14, gF15, gF16, gF17, gF18, gF19, pF0, pF1, pF2, pF3, pF4, pF5, pF6, pF7, pF8, pF9, pF10, pF11, pF12, pF13, pF14, pF15, pF16, pF17, pF18, pF19, aI_mk, aL_mk, aA_mk, sI_mk, sL_mk, sA_mk, isO_mk, rl_some, rl_none, true_and, and_true, true_or, or_true, wr_1, c93, bI_f ha, if_true]
    exact KK
theorem r134 {r t : Int32} (D : isM w m) (I : iM m n U) (K : ∀ w2 m2, fr w w2 51 60 → isM w2 m2 → kM m m2 → Q (some (.long (meA (dOf n m.df) r t))) w2) : Wp 134 b 0 [.ref 51, .int r, .int t] [] w Q := by
  have hn : n ≤ 12 := I.1.2.1
  have tz : ∀ i, i < n → (dt (dOf n m.df) i = 0 ↔ tkF (tD m.df) i = 0) := fun i hi => by
    show tD m.df i = 0 ↔ tkF (tD m.df) i = 0
    obtain ⟨t1, t2⟩ := I.1.2.2 i hi
    rw [t1]
    have := cl_nI (j := tkF (tD m.df) i) (by omega)
    exact nI_eq' (b := 0) (by omega) (by omega)
  unfold meA at K
  refine c134 D I.1 I.2.1 (fun c => ?_) (fun i hi er c e => ?_) (fun i w2 m2 hi er c e f2 D2 k2 => ?_)
  · have KK := K w m fr.rf D kM.rf
    rw [if_neg (show ¬ (hR (dOf n m.df) r ∧ hB t) from c)] at KK
    exact KK
  · have KK := K w m fr.rf D kM.rf
    obtain ⟨g, e1⟩ := hR_of (e := dOf n m.df) hn hi er
    rw [if_pos ⟨g, c⟩, e1, if_pos ((tz i hi).mpr e)] at KK
    exact KK
  · have KK := K w2 m2 f2 D2 k2
    obtain ⟨g, e1⟩ := hR_of (e := dOf n m.df) hn hi er
    rw [if_pos ⟨g, c⟩, e1, if_neg (fun q => e ((tz i hi).mp q))] at KK
    exact KK
theorem r135 {t : Int32} (D : isM w m) (I : iM m n U) (K : ∀ w2 m2, fr w w2 51 60 → isM w2 m2 → kM m m2 → Q (some (.int (woA (dOf n m.df) U t))) w2) : Wp 135 b 0 [.ref 51, .int t, x_no, x_no, x_no, x_no, x_no, x_no, x_no] [] w Q := by
  unfold woA at K
  refine c135 D I.1 I.2.2.2.1.1 I.2.2.2.1.2 (V := nuD (dOf n m.df) U) (fun a _ => (I.nu a).symm) (fun c => ?_) (fun w2 m2 c e f2 D2 k2 => ?_) (fun w2 m2 y c e f2 D2 k2 ey => ?_)
  · have KK := K w m fr.rf D kM.rf
    rw [if_neg c] at KK
    exact KK
  · have KK := K w2 m2 f2 D2 k2
    rw [if_pos c, if_pos (by rw [← I.de]; exact e)] at KK
    exact KK
  · have KK := K w2 m2 f2 D2 k2
    rw [if_pos c, if_neg (by rw [← I.de]; exact e)] at KK
    have e2 : y = woD (dOf n m.df) U := by
      rw [ey, I.de]
      rfl
    rw [e2]
    exact KK
theorem r136 {r q a t : Int32} (D : isM w m) (I : iM m n U) (K : ∀ w2 m2, fr w w2 51 60 → isM w2 m2 → kM m m2 → Q (some (.long (wiA (dOf n m.df) U r q a t))) w2) : Wp 136 b 0 [.ref 51, .int r, .int q, .int a, .int t, x_no] [] w Q := by
  obtain ⟨F1, F2, F3, F4, F5, -⟩ := I.2.2.2.2.2.2
  unfold wiA at K
  refine c136 D I.1 I.2.2.2.1.1 I.2.2.2.1.2 I.2.2.2.2.1 I.2.2.2.2.2.1 (fun i j hi hj => by rw [I.do1 hi hj]; exact (F5 i j hi hj).1) (fun i j z hi hj hz => by rw [I.no1 hi hj]; exact (F5 i j hi hj).2 z hz) (fun c => ?_) (fun i j w2 m2 hi hj er eq c e f2 D2 k2 => ?_) (fun i j z w2 m2 hi hj er eq hz ea c e f2 D2 k2 => ?_)
  · have KK := K w m fr.rf D kM.rf
    rw [if_neg (show ¬ (hG (dOf n m.df) r q ∧ (1 ≤ a ∧ a ≤ 4) ∧ hB t) from c)] at KK
    exact KK
  · have KK := K w2 m2 f2 D2 k2
    obtain ⟨g, e1, e2⟩ := hG_of I.vd hi hj er eq
    rw [if_pos ⟨g, c⟩, e1, if_pos (by rw [← I.do1 hi hj]; exact e)] at KK
    exact KK
  · have KK := K w2 m2 f2 D2 k2
    obtain ⟨g, e1, e2⟩ := hG_of I.vd hi hj er eq
    obtain ⟨h1, h2⟩ := hA_of (z := z + 1) (by omega) ea
    have n0 : ¬ a = 0 := by
      rw [ea]
      exact fun q => absurd ((nI_eq' (b := 0) (by omega) (by omega)).mp q) (by omega)
    rw [if_pos ⟨g, x_14p.mpr ⟨h1, n0⟩, c⟩, e1, e2, h2, if_neg (by rw [← I.do1 hi hj]; exact e), Nat.add_sub_cancel, ← I.no1 hi hj, ← I.do1 hi hj] at KK
    exact KK
theorem r138 {a : Int32} (D : isM w m) (I : iM m n U) (K : ∀ w2 m2, fr w w2 51 60 → isM w2 m2 → kM m m2 → Q (some (.int (chA (dOf n m.df) a))) w2) : Wp 138 b 0 [.ref 51, .int a] [] w Q := by
  unfold chA at K
  refine c138 D I.1 (fun c => ?_) (fun z w2 m2 hz ea f2 D2 k2 => ?_)
  · have KK := K w m fr.rf D kM.rf
    rw [if_neg c] at KK
    exact KK
  · have KK := K w2 m2 f2 D2 k2
    obtain ⟨h1, h2⟩ := hA_of hz ea
    rw [if_pos h1, ea] at KK
    rw [fa_lk I.1 I.2.2.1 hz]
    exact KK
theorem r141 {r t : Int32} (D : isM w m) (I : iM m n U) (K : ∀ w2 m2, fr w w2 51 60 → isM w2 m2 → kM m m2 → Q (some (.long (pbA (dOf n m.df) r t))) w2) : Wp 141 b 0 [.ref 51, .int r, .int t, x_no] [] w Q := by
  have hn : n ≤ 12 := I.1.2.1
  obtain ⟨F1, F2, F3, F4, F5, F6⟩ := I.2.2.2.2.2.2
  unfold pbA at K
  refine c141 D I.1 I.2.1 F6 (fun c => ?_) (fun i hi er c e => ?_) (fun i j w2 m2 hi hj er c e f2 D2 k2 => ?_)
  · have KK := K w m fr.rf D kM.rf
    rw [if_neg (show ¬ (hR (dOf n m.df) r ∧ hB t) from c)] at KK
    exact KK
  · have KK := K w m fr.rf D kM.rf
    obtain ⟨g, e1⟩ := hR_of (e := dOf n m.df) hn hi er
    rw [if_pos ⟨g, c⟩, e1, if_pos (show swF (dn (dOf n m.df)) (dl (dOf n m.df)) (dr (dOf n m.df)) (dt (dOf n m.df)) i = -1 from e)] at KK
    exact KK
  · have KK := K w2 m2 f2 D2 k2
    obtain ⟨g, e1⟩ := hR_of (e := dOf n m.df) hn hi er
    have e' : swF (dn (dOf n m.df)) (dl (dOf n m.df)) (dr (dOf n m.df)) (dt (dOf n m.df)) i = nI j := e
    rw [if_pos ⟨g, c⟩, e1, e', if_neg (nI_m1 (by omega)), cl_nI (by omega)] at KK
    exact KK
theorem r142 (D : isM w m) (I : iM m n U) (K : ∀ w2 m2, fr w w2 51 60 → isM w2 m2 → kM m m2 → Q (some (.int (msA (dOf n m.df)))) w2) : Wp 142 b 0 [.ref 51, x_no, x_no, x_no, x_no, x_no, x_no, x_no, x_no, x_no, x_no, x_no] [] w Q := (c142 D I.1 I.2.1).mpr (K w m fr.rf D kM.rf)
end RA
