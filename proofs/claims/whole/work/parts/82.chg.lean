/-! Changed designs stay within their limits, and are the same on both sides -/
theorem x_rg {x : Int32} (h : -100000 ≤ x ∧ x ≤ 100000) : -100000 ≤ x.toInt ∧ x.toInt ≤ 100000 := by
  obtain ⟨a, c⟩ := h
  rw [Int32.le_iff_toInt_le] at a c
  rw [show (-100000 : Int32).toInt = -100000 from rfl] at a
  rw [show (100000 : Int32).toInt = 100000 from rfl] at c
  exact ⟨a, c⟩
theorem x_msk {x : Int32} (h : 1 ≤ x ∧ x ≤ 31) : ∃ a, a < 32 ∧ x = nI a := by
  obtain ⟨h1, h2⟩ := h
  rw [Int32.le_iff_toInt_le, show (1 : Int32).toInt = 1 from rfl] at h1
  rw [Int32.le_iff_toInt_le, show (31 : Int32).toInt = 31 from rfl] at h2
  rcases pk_ix x (n := 32) (by omega) with q | q | q
  · rw [Int32.lt_iff_toInt_lt, show (0 : Int32).toInt = 0 from rfl] at q
    omega
  · rw [Int32.le_iff_toInt_le, show (nI 32 : Int32).toInt = 32 from rfl] at q
    omega
  · exact q
theorem tk_us {f : Nat → Int32} {i t : Nat} (ht : t ≤ 1000) : tkF (upd f i (nI t)) i = t := by
  unfold tkF
  rw [pk_us]
  exact cl_nI ht
theorem tk_un {f : Nat → Int32} {i j : Nat} {x : Int32} (h : j ≠ i) : tkF (upd f i x) j = tkF f j := by
  unfold tkF
  rw [pk_un h]
section VG
variable {d : DD} {U : Nat}
theorem vG_ap {x y : Int32} (g : vG d U) (hn : dn d < 12) (hx : ∃ a, a < 32 ∧ x = nI a) (hy : ∃ a, a < 32 ∧ y = nI a) : vG (apD d x y) U := by
  obtain ⟨⟨g1, g2⟩, g3, g4, g5, g6⟩ := g
  refine ⟨⟨(show dn d + 1 ≤ 12 by omega), fun i hi => ?_⟩, g3, fun i hi j hj => ?_, fun j hj => ?_, g6⟩
  · have hi2 : i < dn d + 1 := hi
    show upd (dt d) (dn d) (nI 0) i = nI (tkF (upd (dt d) (dn d) (nI 0)) i) ∧ tkF (upd (dt d) (dn d) (nI 0)) i ≤ 6
    by_cases c : i = dn d
    · rw [c, tk_us (by omega), pk_us]
      exact ⟨rfl, by omega⟩
    · rw [tk_un c, pk_un c]
      exact g2 i (show i < dn d by omega)
  · have hi2 : i < dn d + 1 := hi
    have hj2 : j < tkF (upd (dt d) (dn d) (nI 0)) i := hj
    by_cases c : i = dn d
    · rw [c, tk_us (by omega)] at hj2
      omega
    · rw [tk_un c] at hj2
      exact g4 i (by omega) j hj2
  · have hj2 : j < dn d + 1 := hj
    show ∃ a c, a < 32 ∧ c < 32 ∧ upd (dl d) (dn d) x j = nI a ∧ upd (dr d) (dn d) y j = nI c
    by_cases c : j = dn d
    · obtain ⟨a, ha, ea⟩ := hx
      obtain ⟨e, he, ee⟩ := hy
      rw [c, pk_us, pk_us]
      exact ⟨a, e, ha, he, ea, ee⟩
    · rw [pk_un c, pk_un c]
      exact g5 j (by omega)
theorem vG_tk {x : Int32} {i : Nat} (g : vG d U) (hi : i < dn d) (ht : tkF (dt d) i < 6) (hx : -100000 ≤ x.toInt ∧ x.toInt ≤ 100000) : vG (tkD d i x) U := by
  obtain ⟨⟨g1, g2⟩, g3, g4, g5, g6⟩ := g
  refine ⟨⟨g1, fun j hj => ?_⟩, g3, fun j hj z hz => ?_, g5, g6⟩
  · show upd (dt d) i (nI (tkF (dt d) i + 1)) j = nI (tkF (upd (dt d) i (nI (tkF (dt d) i + 1))) j) ∧ tkF (upd (dt d) i (nI (tkF (dt d) i + 1))) j ≤ 6
    by_cases c : j = i
    · rw [c, tk_us (by omega), pk_us]
      exact ⟨rfl, by omega⟩
    · rw [tk_un c, pk_un c]
      exact g2 j hj
  · have hz2 : z < tkF (upd (dt d) i (nI (tkF (dt d) i + 1))) j := hz
    show -100000 ≤ (upd (dm d) (6 * i + tkF (dt d) i) x (6 * j + z)).toInt ∧ (upd (dm d) (6 * i + tkF (dt d) i) x (6 * j + z)).toInt ≤ 100000
    have t6 : tkF (dt d) j ≤ 6 := (g2 j hj).2
    by_cases c : 6 * j + z = 6 * i + tkF (dt d) i
    · rw [c, pk_us]
      exact hx
    · rw [pk_un c]
      by_cases c2 : j = i
      · subst c2
        rw [tk_us (by omega)] at hz2
        exact g4 j hj z (show z < tkF (dt d) j by omega)
      · rw [tk_un c2] at hz2
        exact g4 j hj z hz2
theorem vG_dw {i : Nat} (g : vG d U) (hi : i < dn d) : vG (dwD d i) U := by
  obtain ⟨⟨g1, g2⟩, g3, g4, g5, g6⟩ := g
  refine ⟨⟨(show dn d - 1 ≤ 12 by have : dn d ≤ 12 := g1; omega), fun j hj => ?_⟩, g3, fun j hj z hz => ?_, fun j hj => ?_, g6⟩
  · have hj2 : j < dn d - 1 := hj
    show shF (dt d) i j = nI (tkF (shF (dt d) i) j) ∧ tkF (shF (dt d) i) j ≤ 6
    unfold tkF shF
    by_cases c : j < i
    · simp only [if_pos c]
      exact g2 j (show j < dn d by omega)
    · simp only [if_neg c]
      exact g2 (j + 1) (show j + 1 < dn d by omega)
  · have hj2 : j < dn d - 1 := hj
    have hz2 : z < tkF (shF (dt d) i) j := hz
    have h6 : tkF (shF (dt d) i) j ≤ 6 := by
      unfold tkF shF
      by_cases c : j < i
      · simp only [if_pos c]
        exact (g2 j (show j < dn d by omega)).2
      · simp only [if_neg c]
        exact (g2 (j + 1) (show j + 1 < dn d by omega)).2
    show -100000 ≤ (shM (dm d) i (6 * j + z)).toInt ∧ (shM (dm d) i (6 * j + z)).toInt ≤ 100000
    unfold tkF shF at hz2 h6
    unfold shM
    by_cases c : j < i
    · simp only [if_pos c] at hz2 h6
      rw [if_pos (by omega)]
      exact g4 j (show j < dn d by omega) z hz2
    · simp only [if_neg c] at hz2 h6
      rw [if_neg (by omega)]
      have := g4 (j + 1) (show j + 1 < dn d by omega) z hz2
      rw [show 6 * (j + 1) + z = 6 * j + z + 6 by omega] at this
      exact this
  · have hj2 : j < dn d - 1 := hj
    show ∃ a c, a < 32 ∧ c < 32 ∧ shF (dl d) i j = nI a ∧ shF (dr d) i j = nI c
    unfold shF
    by_cases c : j < i
    · simp only [if_pos c]
      exact g5 j (by omega)
    · simp only [if_neg c]
      exact g5 (j + 1) (by omega)
theorem vG_dr {i j t : Nat} {mf2 : Nat → Int32} (g : vG d U) (hi : i < dn d) (ht : dt d i = nI (t + 1)) (ht6 : t < 6) (hj : j ≤ t) (em : ∀ x, mf2 x = if 6 * i + j ≤ x ∧ x < 6 * i + t then dm d (x + 1) else dm d x) : vG (d.1, dl d, dr d, upd (dt d) i (nI t), mf2) U := by
  obtain ⟨⟨g1, g2⟩, g3, g4, g5, g6⟩ := g
  have et : tkF (dt d) i = t + 1 := by
    unfold tkF
    rw [ht]
    exact cl_nI (by omega)
  refine ⟨⟨g1, fun z hz => ?_⟩, g3, fun z hz y hy => ?_, g5, g6⟩
  · show upd (dt d) i (nI t) z = nI (tkF (upd (dt d) i (nI t)) z) ∧ tkF (upd (dt d) i (nI t)) z ≤ 6
    by_cases c : z = i
    · rw [c, tk_us (by omega), pk_us]
      exact ⟨rfl, by omega⟩
    · rw [tk_un c, pk_un c]
      exact g2 z hz
  · have hy2 : y < tkF (upd (dt d) i (nI t)) z := hy
    have t6 : tkF (dt d) z ≤ 6 := (g2 z hz).2
    show -100000 ≤ (mf2 (6 * z + y)).toInt ∧ (mf2 (6 * z + y)).toInt ≤ 100000
    rw [em]
    by_cases c : z = i
    · subst c
      rw [tk_us (by omega)] at hy2
      by_cases c2 : 6 * z + j ≤ 6 * z + y ∧ 6 * z + y < 6 * z + t
      · rw [if_pos c2]
        exact g4 z hz (y + 1) (show y + 1 < tkF (dt d) z by omega)
      · rw [if_neg c2]
        exact g4 z hz y (show y < tkF (dt d) z by omega)
    · rw [tk_un c] at hy2
      rw [if_neg (by omega)]
      exact g4 z hz y hy2
theorem vG_st {s x : Int32} (g : vG d U) (ok : okS s x) : ∃ U2, vG (stD d s x) U2 := by
  obtain ⟨g1, g3, g4, g5, g6⟩ := g
  rcases ok with ⟨e, q1, q2⟩ | ⟨e, q1, q2⟩ | ⟨e, q1, q2⟩
  · unfold stD
    rw [if_pos e]
    exact ⟨U, g1, g3, g4, g5, x_rg ⟨q1, q2⟩⟩
  · unfold stD
    rw [if_neg (by rw [e]; decide), if_pos e]
    rcases x_01.mp ⟨q1, q2⟩ with r | r
    · exact ⟨4, g1, ⟨by show 4 + x = nI 4; rw [r]; rfl, Or.inl rfl⟩, g4, g5, g6⟩
    · exact ⟨5, g1, ⟨by show 4 + x = nI 5; rw [r]; rfl, Or.inr rfl⟩, g4, g5, g6⟩
  · unfold stD
    rw [if_neg (by rw [e]; decide), if_neg (by rw [e]; decide)]
    exact ⟨U, g1, g3, g4, g5, g6⟩
theorem vG_ti {d2 : DD} {x y a : Int32} (g : vG d U) (hx : ∃ a, a < 32 ∧ x = nI a) (hy : ∃ a, a < 32 ∧ y = nI a) (ha : -100000 ≤ a.toInt ∧ a.toInt ≤ 100000) (h : tkI d x y a = some d2) : vG d2 U := by
  have hn : dn d ≤ 12 := g.1.1
  unfold tkI at h
  have hz := fndN_or (P := fun j => decide (d.2.1 j = x ∧ d.2.2.1 j = y)) d.1.2.2.2 0
  generalize fndN (fun j => decide (d.2.1 j = x ∧ d.2.2.1 j = y)) d.1.2.2.2 0 = z at hz h
  rcases hz with e | ⟨j, -, hj, -, e⟩
  · rw [if_pos e] at h
    split at h
    · cases h
    · rename_i h12
      have h12' : dn d < 12 := by
        have : ¬ dn d = 12 := h12
        omega
      cases h
      have t0 : tkF (dt (apD d x y)) (dn d) = 0 := tk_us (t := 0) (by omega)
      have := vG_tk (i := dn d) (x := a) (vG_ap g h12' hx hy) (show dn d < dn d + 1 by omega) (by rw [t0]; omega) ha
      unfold tkD at this
      rw [t0] at this
      exact this
  · have hj2 : j < dn d := by
      have : j < 0 + dn d := hj
      omega
    rw [e, if_neg (nI_m1 (a := j) (by omega)), cl_nI (j := j) (by omega)] at h
    split at h
    · cases h
    · rename_i h6
      cases h
      have t6 : tkF (dt d) j ≤ 6 := (g.1.2 j hj2).2
      exact vG_tk g hj2 (by have : ¬ tkF (dt d) j = 6 := h6; omega) ha
theorem rm_msk {cf : Nat → Int32} {len p : Nat} : ∃ a, a < 32 ∧ (rmF cf len 5 0 p 0).1 = nI a := x_rm32 5 0 p 0 (by omega) (by omega)
theorem vG_sF {cf : Nat → Int32} {len p : Nat} (g : vG d U) : vG (stF cf len d p).2.1 U := by
  have G : ∀ z, prF cf len p = some z → (∃ a, a < 32 ∧ z.1.1 = nI a) ∧ ∃ a, a < 32 ∧ z.1.2.1 = nI a := by
    intro z hz
    unfold prF at hz
    split at hz
    · cases hz
    · split at hz
      · cases hz
      · split at hz
        · cases hz
        · split at hz
          · cases hz
          · split at hz
            · cases hz
            · split at hz
              · cases hz
              · cases hz
                exact ⟨rm_msk, rm_msk⟩
  unfold stF
  cases e : prF cf len p with
  | none => exact g
  | some z =>
    obtain ⟨h1, h2⟩ := G z e
    simp only
    split
    · exact g
    · split
      · exact g
      · rename_i h3
        cases e2 : tkI d z.1.1 z.1.2.1 z.1.2.2 with
        | none => exact g
        | some d2 => exact vG_ti g h1 h2 (x_rg (Classical.not_not.mp h3)) e2
theorem vG_rF {cf : Nat → Int32} {len : Nat} : ∀ (k : Nat) (d : DD) (p e : Nat), vG d U → vG (rnF cf len k d p e).2.1 U
  | 0, _, _, _, g => g
  | k + 1, d, p, e, g => by
    show vG (if p < len then (if (stF cf len d p).1 = 0 then rnF cf len k (stF cf len d p).2.1 (stF cf len d p).2.2 (e + 1) else ((stF cf len d p).1, (stF cf len d p).2.1, p, e)) else (0, d, p, e)).2.1 U
    split
    · split
      · exact vG_rF k _ _ _ (vG_sF g)
      · exact vG_sF g
    · exact g
end VG
section EC
variable {d : DD} {n : Nat} {f : Nat → Int32}
theorem eq_ap {x y : Int32} (E : eqD (dOf n f) d) (hn : n < 12) : eqD (dOf (n + 1) (adF f n x y)) (apD d x y) := by
  obtain ⟨⟨s, p, l, n'⟩, lf, rf, tf, mf⟩ := d
  obtain ⟨h, A⟩ := E
  have h' : (f 0, f 1, f 2, n) = (s, p, l, n') := h
  cases h'
  refine ⟨?_, fun j hj => ?_⟩
  · show (adF f n x y 0, adF f n x y 1, adF f n x y 2, n + 1) = (f 0, f 1, f 2, n + 1)
    rw [ad_s.1, ad_s.2.1, ad_s.2.2]
  · have hj2 : j < n + 1 := hj
    obtain ⟨a1, a2, a3⟩ := ad_l (d := f) (x := x) (y := y) hn (show j ≤ n by omega)
    show lD (adF f n x y) j = upd lf n x j ∧ rD (adF f n x y) j = upd rf n y j ∧ tD (adF f n x y) j = upd tf n (nI 0) j ∧ ∀ z, z < tkF (upd tf n (nI 0)) j → mD (adF f n x y) (6 * j + z) = mf (6 * j + z)
    rw [a1, a2, a3]
    by_cases c : j = n
    · subst c
      rw [if_pos rfl, if_pos rfl, if_pos rfl, pk_us, pk_us, pk_us, tk_us (by omega)]
      exact ⟨rfl, rfl, rfl, fun z hz => absurd hz (Nat.not_lt_zero _)⟩
    · obtain ⟨b1, b2, b3, b4⟩ := A j (show j < n by omega)
      rw [if_neg c, if_neg c, if_neg c, pk_un c, pk_un c, pk_un c, tk_un c]
      exact ⟨b1, b2, b3, fun z hz => by rw [ad_m hn]; exact b4 z hz⟩
theorem eq_tk {x : Int32} {i : Nat} (E : eqD (dOf n f) d) (v : vD d) (hi : i < dn d) (ht : tkF (dt d) i < 6) : eqD (dOf n (tcF f i (tkF (tD f) i) x)) (tkD d i x) := by
  have e1 : tkF (tD f) i = tkF (dt d) i := agD.tk E.2 hi
  have hn : dn d ≤ 12 := v.1
  have v2 := v.2
  rw [e1]
  obtain ⟨⟨s, p, l, n'⟩, lf, rf, tf, mf⟩ := d
  obtain ⟨h, A⟩ := E
  have h' : (f 0, f 1, f 2, n) = (s, p, l, n') := h
  cases h'
  have hi2 : i < n := hi
  have hn2 : n ≤ 12 := hn
  have ht2 : tkF tf i < 6 := ht
  refine ⟨?_, fun j hj => ?_⟩
  · show (tcF f i (tkF tf i) x 0, tcF f i (tkF tf i) x 1, tcF f i (tkF tf i) x 2, n) = (f 0, f 1, f 2, n)
    rw [tc_s.1, tc_s.2.1, tc_s.2.2]
  · have hj2 : j < n := hj
    obtain ⟨a1, a2, a3⟩ := tc_l (d := f) (t := tkF tf i) (a := x) (show i < 12 by omega) (show j < 12 by omega)
    obtain ⟨b1, b2, b3, b4⟩ := A j hj2
    show lD (tcF f i (tkF tf i) x) j = lf j ∧ rD (tcF f i (tkF tf i) x) j = rf j ∧ tD (tcF f i (tkF tf i) x) j = upd tf i (nI (tkF tf i + 1)) j ∧ ∀ z, z < tkF (upd tf i (nI (tkF tf i + 1))) j → mD (tcF f i (tkF tf i) x) (6 * j + z) = upd mf (6 * i + tkF tf i) x (6 * j + z)
    have t6 : tkF tf j ≤ 6 := (v2 j hj).2
    rw [a1, a2, a3]
    refine ⟨b1, b2, ?_, fun z hz => ?_⟩
    · by_cases c : j = i
      · rw [if_pos c, c, pk_us]
      · rw [if_neg c, pk_un c]
        exact b3
    · rw [tc_m (show i < 12 by omega)]
      by_cases c : 6 * j + z = 6 * i + tkF tf i
      · rw [if_pos c, c, pk_us]
      · rw [if_neg c, pk_un c]
        by_cases c2 : j = i
        · subst c2
          rw [tk_us (by omega)] at hz
          exact b4 z (show z < tkF tf j by omega)
        · rw [tk_un c2] at hz
          exact b4 z hz
theorem eq_dw {f2 : Nat → Int32} {i k' : Nat} (E : eqD (dOf (k' + 1) f) d) (v : vD d) (hi : i ≤ k') (h2 : ∀ z, f2 z = drF (upd f 3 (nI k')) i k' z) : f2 3 = nI k' ∧ eqD (dOf k' f2) (dwD d i) := by
  have hn : dn d ≤ 12 := v.1
  have v2 := v.2
  obtain ⟨⟨s, p, l, n'⟩, lf, rf, tf, mf⟩ := d
  obtain ⟨h, A⟩ := E
  have h' : (f 0, f 1, f 2, k' + 1) = (s, p, l, n') := h
  cases h'
  have hn2 : k' + 1 ≤ 12 := hn
  have lo : ∀ z, z < 4 → f2 z = upd f 3 (nI k') z := fun z hz => by
    rw [h2]
    unfold drF
    rw [if_neg (by omega), if_neg (by omega)]
  refine ⟨by rw [lo 3 (by omega), pk_us], ?_, fun j hj => ?_⟩
  · show (f2 0, f2 1, f2 2, k') = (f 0, f 1, f 2, k' + 1 - 1)
    rw [lo 0 (by omega), lo 1 (by omega), lo 2 (by omega), pk_un (by omega), pk_un (by omega), pk_un (by omega), Nat.add_sub_cancel]
  · have hj2 : j < k' := by
      have : j < k' + 1 - 1 := hj
      omega
    show lD f2 j = shF lf i j ∧ rD f2 j = shF rf i j ∧ tD f2 j = shF tf i j ∧ ∀ z, z < tkF (shF tf i) j → mD f2 (6 * j + z) = shM mf i (6 * j + z)
    have G : ∀ a, a = 4 ∨ a = 16 ∨ a = 28 → f2 (a + j) = if j < i then f (a + j) else f (a + (j + 1)) := by
      intro a ha
      rw [h2]
      unfold drF
      by_cases c : j < i
      · rw [if_neg (by omega), if_neg (by omega), if_pos c, pk_un (by omega)]
      · rw [if_pos (by omega), if_neg c, pk_un (by omega)]
        rfl
    have e1 : lD f2 j = if j < i then lD f j else lD f (j + 1) := G 4 (by omega)
    have e2 : rD f2 j = if j < i then rD f j else rD f (j + 1) := G 16 (by omega)
    have e3 : tD f2 j = if j < i then tD f j else tD f (j + 1) := G 28 (by omega)
    have h6 : tkF (shF tf i) j ≤ 6 := by
      unfold tkF shF
      by_cases c : j < i
      · simp only [if_pos c]
        exact (v2 j (show j < k' + 1 by omega)).2
      · simp only [if_neg c]
        exact (v2 (j + 1) (show j + 1 < k' + 1 by omega)).2
    rw [e1, e2, e3]
    by_cases c : j < i
    · obtain ⟨b1, b2, b3, b4⟩ := A j (show j < k' + 1 by omega)
      unfold tkF shF at h6
      simp only [if_pos c] at h6
      unfold tkF shF shM
      simp only [if_pos c]
      refine ⟨b1, b2, b3, fun z hz => ?_⟩
      rw [if_pos (by omega)]
      have e4 : mD f2 (6 * j + z) = mD f (6 * j + z) := by
        show f2 (40 + (6 * j + z)) = f (40 + (6 * j + z))
        rw [h2]
        unfold drF
        rw [if_neg (by omega), if_neg (by omega), pk_un (by omega)]
      rw [e4]
      exact b4 z hz
    · obtain ⟨b1, b2, b3, b4⟩ := A (j + 1) (show j + 1 < k' + 1 by omega)
      unfold tkF shF at h6
      simp only [if_neg c] at h6
      unfold tkF shF shM
      simp only [if_neg c]
      refine ⟨b1, b2, b3, fun z hz => ?_⟩
      rw [if_neg (by omega)]
      have e4 : mD f2 (6 * j + z) = mD f (6 * (j + 1) + z) := by
        show f2 (40 + (6 * j + z)) = f (40 + (6 * (j + 1) + z))
        rw [h2]
        unfold drF
        rw [if_neg (by omega), if_pos (by omega), pk_un (by omega)]
        exact congrArg f (by omega)
      rw [e4, show 6 * j + z + 6 = 6 * (j + 1) + z by omega]
      exact b4 z hz
theorem eq_dr {f2 mf2 : Nat → Int32} {i j t : Nat} (E : eqD (dOf n f) d) (v : vD d) (hi : i < dn d) (ht : dt d i = nI (t + 1)) (ht6 : t < 6) (hj : j ≤ t) (h2 : ∀ z, f2 z = drR (upd f (28 + i) (nI t)) i j t z) (em : ∀ x, mf2 x = if 6 * i + j ≤ x ∧ x < 6 * i + t then dm d (x + 1) else dm d x) : f2 3 = f 3 ∧ eqD (dOf n f2) (d.1, dl d, dr d, upd (dt d) i (nI t), mf2) := by
  have hn : dn d ≤ 12 := v.1
  have v2 := v.2
  obtain ⟨⟨s, p, l, n'⟩, lf, rf, tf, mf⟩ := d
  obtain ⟨h, A⟩ := E
  have h' : (f 0, f 1, f 2, n) = (s, p, l, n') := h
  cases h'
  have hn2 : n ≤ 12 := hn
  have hi2 : i < n := hi
  have ht2 : tf i = nI (t + 1) := ht
  have et : tkF tf i = t + 1 := by
    unfold tkF
    rw [ht2]
    exact cl_nI (by omega)
  have lo : ∀ z, z < 40 → z ≠ 28 + i → f2 z = f z := fun z hz hz2 => by
    rw [h2]
    unfold drR
    rw [if_neg (by omega), pk_un hz2]
  refine ⟨lo 3 (by omega) (by omega), ?_, fun z hz => ?_⟩
  · show (f2 0, f2 1, f2 2, n) = (f 0, f 1, f 2, n)
    rw [lo 0 (by omega) (by omega), lo 1 (by omega) (by omega), lo 2 (by omega) (by omega)]
  · have hz2 : z < n := hz
    obtain ⟨b1, b2, b3, b4⟩ := A z hz2
    have t6 : tkF tf z ≤ 6 := (v2 z hz).2
    show lD f2 z = lf z ∧ rD f2 z = rf z ∧ tD f2 z = upd tf i (nI t) z ∧ ∀ y, y < tkF (upd tf i (nI t)) z → mD f2 (6 * z + y) = mf2 (6 * z + y)
    have e1 : lD f2 z = lD f z := lo (4 + z) (by omega) (by omega)
    have e2 : rD f2 z = rD f z := lo (16 + z) (by omega) (by omega)
    refine ⟨e1.trans b1, e2.trans b2, ?_, fun y hy => ?_⟩
    · by_cases c : z = i
      · rw [c, pk_us]
        show f2 (28 + i) = nI t
        rw [h2]
        unfold drR
        rw [if_neg (by omega), pk_us]
      · rw [pk_un c]
        have e3 : tD f2 z = tD f z := lo (28 + z) (by omega) (by omega)
        exact e3.trans b3
    · have e4 : mD f2 (6 * z + y) = if 6 * i + j ≤ 6 * z + y ∧ 6 * z + y < 6 * i + t then mD f (6 * z + y + 1) else mD f (6 * z + y) := by
        show f2 (40 + (6 * z + y)) = if 6 * i + j ≤ 6 * z + y ∧ 6 * z + y < 6 * i + t then f (40 + (6 * z + y + 1)) else f (40 + (6 * z + y))
        rw [h2]
        unfold drR
        by_cases c : 6 * i + j ≤ 6 * z + y ∧ 6 * z + y < 6 * i + t
        · rw [if_pos (by omega), if_pos c, pk_un (by omega)]
          rfl
        · rw [if_neg (by omega), if_neg c, pk_un (by omega)]
      rw [e4, em]
      by_cases c : z = i
      · subst c
        rw [tk_us (by omega)] at hy
        by_cases c2 : 6 * z + j ≤ 6 * z + y ∧ 6 * z + y < 6 * z + t
        · rw [if_pos c2, if_pos c2]
          exact b4 (y + 1) (show y + 1 < tkF tf z by omega)
        · rw [if_neg c2, if_neg c2]
          exact b4 y (show y < tkF tf z by omega)
      · rw [tk_un c] at hy
        rw [if_neg (by omega), if_neg (by omega)]
        exact b4 y hy
theorem eq_st {s x : Int32} (E : eqD (dOf n f) d) (ok : okS s x) (v : vM f n) : vM (upd f s.toNatClampNeg x) n ∧ eqD (dOf n (upd f s.toNatClampNeg x)) (stD d s x) ∧ f s.toNatClampNeg = geD d s := by
  have hs : ∃ z, z < 3 ∧ s = nI z := by
    rcases ok with ⟨e, -⟩ | ⟨e, -⟩ | ⟨e, -⟩
    · exact ⟨0, by omega, e⟩
    · exact ⟨1, by omega, e⟩
    · exact ⟨2, by omega, e⟩
  obtain ⟨z, hz, ez⟩ := hs
  have ec : s.toNatClampNeg = z := by rw [ez]; exact cl_nI (by omega)
  rw [ec]
  have hi : ∀ y, 3 ≤ y → upd f z x y = f y := fun y hy => pk_un (by omega)
  have el : lD (upd f z x) = lD f := funext fun y => hi (4 + y) (by omega)
  have er : rD (upd f z x) = rD f := funext fun y => hi (16 + y) (by omega)
  have et : tD (upd f z x) = tD f := funext fun y => hi (28 + y) (by omega)
  have em : mD (upd f z x) = mD f := funext fun y => hi (40 + y) (by omega)
  refine ⟨⟨by rw [hi 3 (by omega)]; exact v.1, by rw [et]; exact v.2⟩, ?_⟩
  obtain ⟨⟨s', p, l, n'⟩, lf, rf, tf, mf⟩ := d
  obtain ⟨h, A⟩ := E
  have h' : (f 0, f 1, f 2, n) = (s', p, l, n') := h
  cases h'
  have A2 : agD n (lD (upd f z x)) (rD (upd f z x)) (tD (upd f z x)) (mD (upd f z x)) lf rf tf mf := by
    rw [el, er, et, em]
    exact A
  have u0 : ∀ y, upd f y x y = x := fun y => pk_us
  rcases (show z = 0 ∨ z = 1 ∨ z = 2 by omega) with e | e | e
  · subst e
    have s0 : s = 0 := ez
    unfold stD geD
    rw [if_pos s0, if_pos s0]
    refine ⟨⟨?_, A2⟩, rfl⟩
    show (upd f 0 x 0, upd f 0 x 1, upd f 0 x 2, n) = (x, f 1, f 2, n)
    rw [u0, pk_un (by omega), pk_un (by omega)]
  · subst e
    have n0 : ¬ s = 0 := by rw [ez]; decide
    have s1 : s = 1 := ez
    unfold stD geD
    rw [if_neg n0, if_pos s1, if_neg n0, if_pos s1]
    refine ⟨⟨?_, A2⟩, rfl⟩
    show (upd f 1 x 0, upd f 1 x 1, upd f 1 x 2, n) = (f 0, x, f 2, n)
    rw [u0, pk_un (by omega), pk_un (by omega)]
  · subst e
    have n0 : ¬ s = 0 := by rw [ez]; decide
    have n1 : ¬ s = 1 := by rw [ez]; decide
    unfold stD geD
    rw [if_neg n0, if_neg n1, if_neg n0, if_neg n1]
    refine ⟨⟨?_, A2⟩, rfl⟩
    show (upd f 2 x 0, upd f 2 x 1, upd f 2 x 2, n) = (f 0, f 1, x, n)
    rw [u0, pk_un (by omega), pk_un (by omega)]
end EC
