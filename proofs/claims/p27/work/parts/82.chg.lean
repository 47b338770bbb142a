/-! Changed designs stay within their limits -/
theorem x_rg {x : Int32} (h : -100000 ≤ x ∧ x ≤ 100000) : -100000 ≤ x.toInt ∧ x.toInt ≤ 100000 := by
  obtain ⟨a, c⟩ := h
  rw [Int32.le_iff_toInt_le] at a c
  rw [show (-100000 : Int32).toInt = -100000 from rfl] at a
  rw [show (100000 : Int32).toInt = 100000 from rfl] at c
  exact ⟨a, c⟩
theorem x_msk {x : Int32} (h : 1 ≤ x ∧ x ≤ 31) : ∃ a, a < 32 ∧ x = nI a := by
  obtain ⟨h1, h2⟩ := h
  rw [Int32.le_iff_toInt_le, show (1 : Int32).toInt = 1 from rfl] at h1
  rw [Int32.le_iff_toInt_le, show (31 : Int32).toInt = 31 from rfl] at h2
  rcases pk_ix x (n := 32) (by omega) with q | q | q
  · rw [Int32.lt_iff_toInt_lt, show (0 : Int32).toInt = 0 from rfl] at q
    omega
  · rw [Int32.le_iff_toInt_le, show (nI 32 : Int32).toInt = 32 from rfl] at q
    omega
  · exact q
theorem tk_us {f : Nat → Int32} {i t : Nat} (ht : t ≤ 1000) : tkF (upd f i (nI t)) i = t := by
  unfold tkF
  rw [pk_us]
  exact cl_nI ht
theorem tk_un {f : Nat → Int32} {i j : Nat} {x : Int32} (h : j ≠ i) : tkF (upd f i x) j = tkF f j := by
  unfold tkF
  rw [pk_un h]
section VG
variable {d : DD} {U : Nat}
theorem vG_ap {x y : Int32} (g : vG d U) (hn : dn d < 12) (hx : ∃ a, a < 32 ∧ x = nI a) (hy : ∃ a, a < 32 ∧ y = nI a) : vG (apD d x y) U := by
  obtain ⟨⟨g1, g2⟩, g3, g4, g5, g6⟩ := g
  refine ⟨⟨(show dn d + 1 ≤ 12 by omega), fun i hi => ?_⟩, g3, fun i hi j hj => ?_, fun j hj => ?_, g6⟩
  · have hi2 : i < dn d + 1 := hi
    show upd (dt d) (dn d) (nI 0) i = nI (tkF (upd (dt d) (dn d) (nI 0)) i) ∧ tkF (upd (dt d) (dn d) (nI 0)) i ≤ 6
    by_cases c : i = dn d
    · rw [c, tk_us (by omega), pk_us]
      exact ⟨rfl, by omega⟩
    · rw [tk_un c, pk_un c]
      exact g2 i (show i < dn d by omega)
  · have hi2 : i < dn d + 1 := hi
    have hj2 : j < tkF (upd (dt d) (dn d) (nI 0)) i := hj
    by_cases c : i = dn d
    · rw [c, tk_us (by omega)] at hj2
      omega
    · rw [tk_un c] at hj2
      exact g4 i (by omega) j hj2
  · have hj2 : j < dn d + 1 := hj
    show ∃ a c, a < 32 ∧ c < 32 ∧ upd (dl d) (dn d) x j = nI a ∧ upd (dr d) (dn d) y j = nI c
    by_cases c : j = dn d
    · obtain ⟨a, ha, ea⟩ := hx
      obtain ⟨e, he, ee⟩ := hy
      rw [c, pk_us, pk_us]
      exact ⟨a, e, ha, he, ea, ee⟩
    · rw [pk_un c, pk_un c]
      exact g5 j (by omega)
theorem vG_tk {x : Int32} {i : Nat} (g : vG d U) (hi : i < dn d) (ht : tkF (dt d) i < 6) (hx : -100000 ≤ x.toInt ∧ x.toInt ≤ 100000) : vG (tkD d i x) U := by
  obtain ⟨⟨g1, g2⟩, g3, g4, g5, g6⟩ := g
  refine ⟨⟨g1, fun j hj => ?_⟩, g3, fun j hj z hz => ?_, g5, g6⟩
  · show upd (dt d) i (nI (tkF (dt d) i + 1)) j = nI (tkF (upd (dt d) i (nI (tkF (dt d) i + 1))) j) ∧ tkF (upd (dt d) i (nI (tkF (dt d) i + 1))) j ≤ 6
    by_cases c : j = i
    · rw [c, tk_us (by omega), pk_us]
      exact ⟨rfl, by omega⟩
    · rw [tk_un c, pk_un c]
      exact g2 j hj
  · have hz2 : z < tkF (upd (dt d) i (nI (tkF (dt d) i + 1))) j := hz
    show -100000 ≤ (upd (dm d) (6 * i + tkF (dt d) i) x (6 * j + z)).toInt ∧ (upd (dm d) (6 * i + tkF (dt d) i) x (6 * j + z)).toInt ≤ 100000
    have t6 : tkF (dt d) j ≤ 6 := (g2 j hj).2
    by_cases c : 6 * j + z = 6 * i + tkF (dt d) i
    · rw [c, pk_us]
      exact hx
    · rw [pk_un c]
      by_cases c2 : j = i
      · subst c2
        rw [tk_us (by omega)] at hz2
        exact g4 j hj z (show z < tkF (dt d) j by omega)
      · rw [tk_un c2] at hz2
        exact g4 j hj z hz2
theorem vG_dr {i j t : Nat} {mf2 : Nat → Int32} (g : vG d U) (hi : i < dn d) (ht : dt d i = nI (t + 1)) (ht6 : t < 6) (hj : j ≤ t) (em : ∀ x, mf2 x = if 6 * i + j ≤ x ∧ x < 6 * i + t then dm d (x + 1) else dm d x) : vG (d.1, dl d, dr d, upd (dt d) i (nI t), mf2) U := by
  obtain ⟨⟨g1, g2⟩, g3, g4, g5, g6⟩ := g
  have et : tkF (dt d) i = t + 1 := by
    unfold tkF
    rw [ht]
    exact cl_nI (by omega)
  refine ⟨⟨g1, fun z hz => ?_⟩, g3, fun z hz y hy => ?_, g5, g6⟩
  · show upd (dt d) i (nI t) z = nI (tkF (upd (dt d) i (nI t)) z) ∧ tkF (upd (dt d) i (nI t)) z ≤ 6
    by_cases c : z = i
    · rw [c, tk_us (by omega), pk_us]
      exact ⟨rfl, by omega⟩
    · rw [tk_un c, pk_un c]
      exact g2 z hz
  · have hy2 : y < tkF (upd (dt d) i (nI t)) z := hy
    have t6 : tkF (dt d) z ≤ 6 := (g2 z hz).2
    show -100000 ≤ (mf2 (6 * z + y)).toInt ∧ (mf2 (6 * z + y)).toInt ≤ 100000
    rw [em]
    by_cases c : z = i
    · subst c
      rw [tk_us (by omega)] at hy2
      by_cases c2 : 6 * z + j ≤ 6 * z + y ∧ 6 * z + y < 6 * z + t
      · rw [if_pos c2]
        exact g4 z hz (y + 1) (show y + 1 < tkF (dt d) z by omega)
      · rw [if_neg c2]
        exact g4 z hz y (show y < tkF (dt d) z by omega)
    · rw [tk_un c] at hy2
      rw [if_neg (by omega)]
      exact g4 z hz y hy2
theorem vG_st {s x : Int32} (g : vG d U) (ok : okS s x) : ∃ U2, vG (stD d s x) U2 := by
  obtain ⟨g1, g3, g4, g5, g6⟩ := g
  rcases ok with ⟨e, q1, q2⟩ | ⟨e, q1, q2⟩ | ⟨e, q1, q2⟩
  · unfold stD
    rw [if_pos e]
    exact ⟨U, g1, g3, g4, g5, x_rg ⟨q1, q2⟩⟩
  · unfold stD
    rw [if_neg (by rw [e]; decide), if_pos e]
    rcases x_01.mp ⟨q1, q2⟩ with r | r
    · exact ⟨4, g1, ⟨by show 4 + x = nI 4; rw [r]; rfl, Or.inl rfl⟩, g4, g5, g6⟩
    · exact ⟨5, g1, ⟨by show 4 + x = nI 5; rw [r]; rfl, Or.inr rfl⟩, g4, g5, g6⟩
  · unfold stD
    rw [if_neg (by rw [e]; decide), if_neg (by rw [e]; decide)]
    exact ⟨U, g1, g3, g4, g5, g6⟩
end VG
theorem vG_eq {d e : DD} {U : Nat} (E : eqD d e) (g : vG e U) : vG d U := by
  obtain ⟨g1, g2, g3, g4, g5⟩ := g
  obtain ⟨e1, e2, e3, e4⟩ := E.s
  refine ⟨E.v g1, by rw [e2]; exact g2, fun i hi j hj => ?_, fun j hj => ?_, by rw [e1]; exact g5⟩
  · rw [e4] at hi
    have e5 : tkF (dt d) i = tkF (dt e) i := agD.tk E.2 hi
    rw [e5] at hj
    rw [(E.row hi).2.2.2 j hj]
    exact g3 i hi j hj
  · rw [e4] at hj
    obtain ⟨h1, h2, -, -⟩ := E.row hj
    rw [h1, h2]
    exact g4 j hj
