/-! Both sides' designs -/
/-- the reference's design, as a design's data -/
def dOf (n : Nat) (d : Nat → Int32) : DD := ((d 0, d 1, d 2, n), lD d, rD d, tD d, mD d)
theorem ad_l {d : Nat → Int32} {n j : Nat} {x y : Int32} (hn : n < 12) (hj : j ≤ n) : lD (adF d n x y) j = (if j = n then x else lD d j) ∧ rD (adF d n x y) j = (if j = n then y else rD d j) ∧ tD (adF d n x y) j = (if j = n then 0 else tD d j) := by
  refine ⟨?_, ?_, ?_⟩
  · show adF d n x y (4 + j) = _
    unfold adF
    rw [pk_un (by omega), pk_un (by omega), pk_un (by omega)]
    by_cases c : j = n
    · rw [if_pos c, c, pk_us]
    · rw [if_neg c, pk_un (by omega)]
      rfl
  · show adF d n x y (16 + j) = _
    unfold adF
    rw [pk_un (by omega), pk_un (by omega)]
    by_cases c : j = n
    · rw [if_pos c, c, pk_us]
    · rw [if_neg c, pk_un (by omega), pk_un (by omega)]
      rfl
  · show adF d n x y (28 + j) = _
    unfold adF
    rw [pk_un (by omega)]
    by_cases c : j = n
    · rw [if_pos c, c, pk_us]
    · rw [if_neg c, pk_un (by omega), pk_un (by omega), pk_un (by omega)]
      rfl
theorem ad_m {d : Nat → Int32} {n z : Nat} {x y : Int32} (hn : n < 12) : mD (adF d n x y) z = mD d z := by
  show adF d n x y (40 + z) = _
  unfold adF
  rw [pk_un (by omega), pk_un (by omega), pk_un (by omega), pk_un (by omega)]
  rfl
theorem ad_s {d : Nat → Int32} {n : Nat} {x y : Int32} : adF d n x y 0 = d 0 ∧ adF d n x y 1 = d 1 ∧ adF d n x y 2 = d 2 := by
  unfold adF
  refine ⟨?_, ?_, ?_⟩
  · rw [pk_un (by omega), pk_un (by omega), pk_un (by omega), pk_un (by omega)]
  · rw [pk_un (by omega), pk_un (by omega), pk_un (by omega), pk_un (by omega)]
  · rw [pk_un (by omega), pk_un (by omega), pk_un (by omega), pk_un (by omega)]
theorem tc_l {d : Nat → Int32} {i t j : Nat} {a : Int32} (hi : i < 12) (hj : j < 12) : lD (tcF d i t a) j = lD d j ∧ rD (tcF d i t a) j = rD d j ∧ tD (tcF d i t a) j = (if j = i then nI (t + 1) else tD d j) := by
  refine ⟨?_, ?_, ?_⟩
  · show tcF d i t a (4 + j) = _
    unfold tcF
    rw [pk_un (by omega), pk_un (by omega)]
    rfl
  · show tcF d i t a (16 + j) = _
    unfold tcF
    rw [pk_un (by omega), pk_un (by omega)]
    rfl
  · show tcF d i t a (28 + j) = _
    unfold tcF
    by_cases c : j = i
    · rw [if_pos c, c, pk_us]
    · rw [if_neg c, pk_un (by omega), pk_un (by omega)]
      rfl
theorem tc_m {d : Nat → Int32} {i t z : Nat} {a : Int32} (hi : i < 12) : mD (tcF d i t a) z = if z = 6 * i + t then a else mD d z := by
  show tcF d i t a (40 + z) = _
  unfold tcF
  rw [pk_un (by omega)]
  by_cases c : z = 6 * i + t
  · rw [if_pos c, c, pk_us]
  · rw [if_neg c, pk_un (by omega)]
    rfl
theorem tc_s {d : Nat → Int32} {i t : Nat} {a : Int32} : tcF d i t a 0 = d 0 ∧ tcF d i t a 1 = d 1 ∧ tcF d i t a 2 = d 2 := by
  unfold tcF
  refine ⟨?_, ?_, ?_⟩
  · rw [pk_un (by omega), pk_un (by omega)]
  · rw [pk_un (by omega), pk_un (by omega)]
  · rw [pk_un (by omega), pk_un (by omega)]
theorem mt_tk {d : Nat → Int32} {n : Nat} {dd : DD} {x y a : Int32} (E : eqD (dOf n d) dd) (v : vM d n) : (mtF d n x y a = none ∧ tkI dd x y a = none) ∨ ∃ q d2, mtF d n x y a = some q ∧ tkI dd x y a = some d2 ∧ eqD (dOf q.2 q.1) d2 := by
  obtain ⟨⟨s, pp, l, n'⟩, lf, rf, tf, mf⟩ := dd
  obtain ⟨e1, e2⟩ := E
  have e1 : (d 0, d 1, d 2, n) = (s, pp, l, n') := e1
  simp only [Prod.mk.injEq] at e1
  obtain ⟨rfl, rfl, rfl, rfl⟩ := e1
  have e2 : ∀ j, j < n → lD d j = lf j ∧ rD d j = rf j ∧ tD d j = tf j ∧ ∀ x, x < tkF tf j → mD d (6 * j + x) = mf (6 * j + x) := e2
  obtain ⟨v0, v1, v2⟩ := v
  have ef : fndN (fun j => decide (lf j = x ∧ rf j = y)) n 0 = fndN (fun j => decide (lD d j = x ∧ rD d j = y)) n 0 := fndN_congr n 0 (fun j _ hj => by
    obtain ⟨g1, g2, -, -⟩ := e2 j (by omega)
    rw [g1, g2])
  unfold mtF tkI
  simp only
  rw [ef]
  have hz := fndN_or (P := fun j => decide (lD d j = x ∧ rD d j = y)) n 0
  generalize fndN (fun j => decide (lD d j = x ∧ rD d j = y)) n 0 = z at hz ⊢
  rcases hz with e | ⟨i, -, hi, -, e⟩
  · subst e
    rw [if_pos rfl, if_pos rfl]
    by_cases c : n = 12
    · rw [if_pos c, if_pos c]
      exact Or.inl ⟨rfl, rfl⟩
    · rw [if_neg c, if_neg c]
      refine Or.inr ⟨_, _, rfl, rfl, ?_, fun j hj => ?_⟩
      · show (tcF (adF d n x y) n 0 a 0, tcF (adF d n x y) n 0 a 1, tcF (adF d n x y) n 0 a 2, n + 1) = (d 0, d 1, d 2, n + 1)
        obtain ⟨s1, s2, s3⟩ := tc_s (d := adF d n x y) (i := n) (t := 0) (a := a)
        obtain ⟨s4, s5, s6⟩ := ad_s (d := d) (n := n) (x := x) (y := y)
        rw [s1, s2, s3, s4, s5, s6]
      · have hj : j < n + 1 := hj
        obtain ⟨p1, p2, p3⟩ := tc_l (d := adF d n x y) (i := n) (t := 0) (a := a) (j := j) (by omega) (by omega)
        obtain ⟨p4, p5, p6⟩ := ad_l (d := d) (x := x) (y := y) (show n < 12 by omega) (show j ≤ n by omega)
        show lD (tcF (adF d n x y) n 0 a) j = upd lf n x j ∧ rD (tcF (adF d n x y) n 0 a) j = upd rf n y j ∧ tD (tcF (adF d n x y) n 0 a) j = upd (upd tf n 0) n 1 j ∧ ∀ k, k < tkF (upd (upd tf n 0) n 1) j → mD (tcF (adF d n x y) n 0 a) (6 * j + k) = upd mf (6 * n) a (6 * j + k)
        by_cases cj : j = n
        · subst cj
          rw [p1, p2, p3, p4, p5, if_pos rfl, if_pos rfl, if_pos rfl, pk_us, pk_us, pk_us]
          refine ⟨rfl, rfl, rfl, fun k hk => ?_⟩
          have hk1 : tkF (upd (upd tf j 0) j 1) j = 1 := by
            unfold tkF
            rw [pk_us]
            decide
          have k0 : k = 0 := by omega
          subst k0
          rw [tc_m (by omega), if_pos rfl, Nat.add_zero, pk_us]
        · obtain ⟨g1, g2, g3, g4⟩ := e2 j (by omega)
          rw [p1, p2, p3, p4, p5, p6, if_neg cj, if_neg cj, if_neg cj, if_neg cj, pk_un cj, pk_un cj, pk_un cj, pk_un cj]
          have hk0 : tkF (upd (upd tf n 0) n 1) j = tkF tf j := by
            unfold tkF
            rw [pk_un cj, pk_un cj]
          refine ⟨g1, g2, g3, fun k hk => ?_⟩
          rw [hk0] at hk
          have t6 : tkF tf j ≤ 6 := by
            have := (v2 j (by omega)).2
            unfold tkF at this ⊢
            rw [← g3]
            exact this
          rw [tc_m (by omega), if_neg (by omega), ad_m (by omega), pk_un (by omega), g4 k hk]
  · have hm : ¬ nI i = -1 := nI_m1 (by omega)
    have hcl : (nI i).toNatClampNeg = i := cl_nI (by omega)
    obtain ⟨h1, h2, h3, h4⟩ := e2 i (by omega)
    have et : tkF tf i = tkF (tD d) i := by
      unfold tkF
      rw [h3]
    obtain ⟨t1, t2⟩ := v2 i (by omega)
    subst e
    rw [if_neg hm, if_neg hm, hcl, et]
    by_cases c : tkF (tD d) i = 6
    · rw [if_pos c, if_pos c]
      exact Or.inl ⟨rfl, rfl⟩
    · rw [if_neg c, if_neg c]
      refine Or.inr ⟨_, _, rfl, rfl, ?_, fun j hj => ?_⟩
      · show (tcF d i (tkF (tD d) i) a 0, tcF d i (tkF (tD d) i) a 1, tcF d i (tkF (tD d) i) a 2, n) = (d 0, d 1, d 2, n)
        obtain ⟨s1, s2, s3⟩ := tc_s (d := d) (i := i) (t := tkF (tD d) i) (a := a)
        rw [s1, s2, s3]
      · have hj : j < n := hj
        obtain ⟨p1, p2, p3⟩ := tc_l (d := d) (i := i) (t := tkF (tD d) i) (a := a) (j := j) (by omega) (by omega)
        obtain ⟨g1, g2, g3, g4⟩ := e2 j hj
        show lD (tcF d i (tkF (tD d) i) a) j = lf j ∧ rD (tcF d i (tkF (tD d) i) a) j = rf j ∧ tD (tcF d i (tkF (tD d) i) a) j = upd tf i (nI (tkF (tD d) i + 1)) j ∧ ∀ k, k < tkF (upd tf i (nI (tkF (tD d) i + 1))) j → mD (tcF d i (tkF (tD d) i) a) (6 * j + k) = upd mf (6 * i + tkF (tD d) i) a (6 * j + k)
        rw [p1, p2, p3]
        by_cases cj : j = i
        · subst cj
          rw [if_pos rfl, pk_us]
          refine ⟨g1, g2, rfl, fun k hk => ?_⟩
          have hk1 : tkF (upd tf j (nI (tkF (tD d) j + 1))) j = tkF (tD d) j + 1 := by
            show (upd tf j (nI (tkF (tD d) j + 1)) j).toNatClampNeg = _
            rw [pk_us]
            exact cl_nI (by omega)
          rw [hk1] at hk
          rw [tc_m (by omega)]
          by_cases ck : k = tkF (tD d) j
          · rw [if_pos (by omega), ck, pk_us]
          · rw [if_neg (by omega), pk_un (by omega)]
            exact g4 k (by rw [et]; omega)
        · rw [if_neg cj, pk_un cj]
          refine ⟨g1, g2, g3, fun k hk => ?_⟩
          have hk0 : tkF (upd tf i (nI (tkF (tD d) i + 1))) j = tkF tf j := by
            show (upd tf i (nI (tkF (tD d) i + 1)) j).toNatClampNeg = _
            rw [pk_un cj]
            rfl
          rw [hk0] at hk
          have t6 : tkF tf j ≤ 6 := by
            have := (v2 j (by omega)).2
            unfold tkF at this ⊢
            rw [← g3]
            exact this
          rw [tc_m (by omega), if_neg (by omega), pk_un (by omega)]
          exact g4 k hk
/-- one row of a text comes to the same on both sides -/
theorem ms_st {cf : Nat → Int32} {len n p : Nat} {d : Nat → Int32} {dd : DD} (E : eqD (dOf n d) dd) (v : vM d n) : (msF cf len n d p).1 = (stF cf len dd p).1 ∧ eqD (dOf (msF cf len n d p).2.2.1 (msF cf len n d p).2.1) (stF cf len dd p).2.1 ∧ (msF cf len n d p).2.2.2 = (stF cf len dd p).2.2 := by
  unfold msF stF
  cases prF cf len p with
  | none => exact ⟨rfl, E, rfl⟩
  | some z =>
    simp only
    by_cases c1 : z.1.1 &&& z.1.2.1 = 0
    · rw [if_neg (show ¬ ¬ (z.1.1 &&& z.1.2.1 = 0) from fun q => q c1), if_neg (show ¬ ¬ (z.1.1 &&& z.1.2.1 = 0) from fun q => q c1)]
      by_cases c2 : -100000 ≤ z.1.2.2 ∧ z.1.2.2 ≤ 100000
      · rw [if_neg (show ¬ ¬ (-100000 ≤ z.1.2.2 ∧ z.1.2.2 ≤ 100000) from fun q => q c2), if_neg (show ¬ ¬ (-100000 ≤ z.1.2.2 ∧ z.1.2.2 ≤ 100000) from fun q => q c2)]
        rcases mt_tk (x := z.1.1) (y := z.1.2.1) (a := z.1.2.2) E v with ⟨e1, e2⟩ | ⟨q, d2, e1, e2, e3⟩
        · rw [e1, e2]
          exact ⟨rfl, E, rfl⟩
        · rw [e1, e2]
          exact ⟨rfl, e3, rfl⟩
      · rw [if_pos (show ¬ (-100000 ≤ z.1.2.2 ∧ z.1.2.2 ≤ 100000) from c2), if_pos (show ¬ (-100000 ≤ z.1.2.2 ∧ z.1.2.2 ≤ 100000) from c2)]
        exact ⟨rfl, E, rfl⟩
    · rw [if_pos (show ¬ (z.1.1 &&& z.1.2.1 = 0) from c1), if_pos (show ¬ (z.1.1 &&& z.1.2.1 = 0) from c1)]
      exact ⟨rfl, E, rfl⟩
