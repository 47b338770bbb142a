/-! Equal designs answer alike -/
section EA
variable {d e : DD} {U : Nat} {r q a t x y : Int32}
theorem hR.ix (hn : dn e ≤ 12) (h : hR e r) : ∃ i, i < dn e ∧ r = nI i ∧ r.toNatClampNeg = i := by
  obtain ⟨i, hi, er⟩ := row_of hn h.1 h.2
  exact ⟨i, hi, er, by rw [er]; exact cl_nI (by omega)⟩
theorem hG.ix (v : vD e) (h : hG e r q) : ∃ i j, i < dn e ∧ j < tkF (dt e) i ∧ r = nI i ∧ q = nI j ∧ r.toNatClampNeg = i ∧ q.toNatClampNeg = j := by
  have hn : dn e ≤ 12 := v.1
  obtain ⟨i, hi, er, ec⟩ := hR.ix hn h.1
  obtain ⟨t1, t2⟩ : dt e i = nI (tkF (dt e) i) ∧ tkF (dt e) i ≤ 6 := v.2 i hi
  have a2 := h.2
  rw [ec, t1] at a2
  obtain ⟨j, hj, eq⟩ := row_of (n := tkF (dt e) i) (by omega) a2.1 a2.2
  exact ⟨i, j, hi, hj, er, eq, ec, by rw [eq]; exact cl_nI (by omega)⟩
theorem eqD.xhR (E : eqD d e) : hR d r ↔ hR e r := by
  unfold hR
  rw [E.s.2.2.2]
theorem eqD.row (E : eqD d e) {i : Nat} (hi : i < dn e) : dl d i = dl e i ∧ dr d i = dr e i ∧ dt d i = dt e i ∧ ∀ j, j < tkF (dt e) i → dm d (6 * i + j) = dm e (6 * i + j) := E.2 i hi
theorem eqD.xhG (E : eqD d e) (hn : dn e ≤ 12) : hG d r q ↔ hG e r q := by
  constructor
  · intro h
    have h1 := E.xhR.mp h.1
    obtain ⟨i, hi, -, ec⟩ := hR.ix hn h1
    have h2 := h.2
    rw [ec, (E.row hi).2.2.1] at h2
    exact ⟨h1, by rw [ec]; exact h2⟩
  · intro h
    obtain ⟨i, hi, -, ec⟩ := hR.ix hn h.1
    have h2 := h.2
    rw [ec, ← (E.row hi).2.2.1] at h2
    exact ⟨E.xhR.mpr h.1, by rw [ec]; exact h2⟩
theorem eqD.xsw (E : eqD d e) (hn : dn e ≤ 12) {i : Nat} (hi : i < dn e) : swF (dn d) (dl d) (dr d) (dt d) i = swF (dn e) (dl e) (dr e) (dt e) i := by
  rw [E.s.2.2.2]
  exact agD.sw E.2 hn hi
theorem eqD.xrwA (E : eqD d e) (v : vD e) (hU : U = 4 ∨ U = 5) : rwA d U r a = rwA e U r a := by
  have hn : dn e ≤ 12 := v.1
  unfold rwA
  by_cases c : hR e r ∧ hA a
  · rw [if_pos c, if_pos ⟨E.xhR.mpr c.1, c.2⟩]
    obtain ⟨i, hi, -, ec⟩ := hR.ix hn c.1
    obtain ⟨e1, e2, e3, -⟩ := E.row hi
    rw [ec]
    obtain ⟨z, hz, ez⟩ := row4 c.2
    rw [ez, cl_nI (by omega)]
    rcases (show z = 0 ∨ z = 1 ∨ z = 2 ∨ z = 3 ∨ z = 4 by omega) with rfl | rfl | rfl | rfl | rfl
    · exact e1
    · exact e2
    · exact e3
    · show nfF _ = nfF _
      rw [E.xsw hn hi]
    · show bI (¬ deD d U = 0 ∧ deX d U i = 0) = bI (¬ deD e U = 0 ∧ deX e U i = 0)
      rw [E.de hU, E.dx hU hi]
  · rw [if_neg c, if_neg (fun q => c ⟨E.xhR.mp q.1, q.2⟩)]
theorem eqD.xrdA (E : eqD d e) (v : vD e) : rdA d r q = rdA e r q := by
  have hn : dn e ≤ 12 := v.1
  unfold rdA
  by_cases c : hG e r q
  · rw [if_pos c, if_pos ((E.xhG hn).mpr c)]
    obtain ⟨i, j, hi, hj, -, -, ei, ej⟩ := hG.ix v c
    rw [ei, ej]
    exact (E.row hi).2.2.2 j hj
  · rw [if_neg c, if_neg (fun q => c ((E.xhG hn).mp q))]
theorem eqD.xfiA (E : eqD d e) : fiA d x y = fiA e x y := by
  unfold fiA
  rw [E.s.2.2.2, agD.fnd E.2]
theorem eqD.xvaA (E : eqD d e) (hU : U = 4 ∨ U = 5) : vaA d U a t = vaA e U a t := by
  unfold vaA
  rw [E.de hU, E.s.1, E.nu hU]
theorem eqD.xpaA (E : eqD d e) (hU : U = 4 ∨ U = 5) : paA d U t = paA e U t := by
  unfold paA
  rw [E.de hU, E.nu hU]
theorem eqD.xreA (E : eqD d e) (v : vD e) (hU : U = 4 ∨ U = 5) : reA d U r q t = reA e U r q t := by
  have hn : dn e ≤ 12 := v.1
  unfold reA
  by_cases c : hG e r q ∧ hB t
  · rw [if_pos c, if_pos ⟨(E.xhG hn).mpr c.1, c.2⟩]
    obtain ⟨i, j, hi, hj, -, -, ei, ej⟩ := hG.ix v c.1
    rw [ei, ej, E.de hU, E.rsd hU hi hj]
  · rw [if_neg c, if_neg (fun q => c ⟨(E.xhG hn).mp q.1, q.2⟩)]
theorem eqD.xbaA (E : eqD d e) (hU : U = 4 ∨ U = 5) : baA d U a t = baA e U a t := by
  unfold baA
  rw [E.de hU, E.bld hU]
theorem eqD.xmeA (E : eqD d e) (hn : dn e ≤ 12) : meA d r t = meA e r t := by
  unfold meA
  by_cases c : hR e r ∧ hB t
  · rw [if_pos c, if_pos ⟨E.xhR.mpr c.1, c.2⟩]
    obtain ⟨i, hi, -, ec⟩ := hR.ix hn c.1
    rw [ec, (E.row hi).2.2.1]
    unfold smD
    rw [agD.sm E.2 hi]
  · rw [if_neg c, if_neg (fun q => c ⟨E.xhR.mp q.1, q.2⟩)]
theorem eqD.xwoA (E : eqD d e) (hU : U = 4 ∨ U = 5) : woA d U t = woA e U t := by
  unfold woA
  rw [E.de hU, E.wod hU]
theorem eqD.xwiA (E : eqD d e) (v : vD e) (hU : U = 4 ∨ U = 5) : wiA d U r q a t = wiA e U r q a t := by
  have hn : dn e ≤ 12 := v.1
  unfold wiA
  by_cases c : hG e r q ∧ (1 ≤ a ∧ a ≤ 4) ∧ hB t
  · rw [if_pos c, if_pos ⟨(E.xhG hn).mpr c.1, c.2⟩]
    obtain ⟨i, j, hi, hj, -, -, ei, ej⟩ := hG.ix v c.1
    rw [ei, ej, E.do1 hU hi, E.no1 hU hi hj]
  · rw [if_neg c, if_neg (fun q => c ⟨(E.xhG hn).mp q.1, q.2⟩)]
theorem eqD.xchA (E : eqD d e) : chA d a = chA e a := by
  unfold chA
  rw [E.s.2.2.2, agD.lk E.2]
theorem eqD.xpbA (E : eqD d e) (hn : dn e ≤ 12) : pbA d r t = pbA e r t := by
  unfold pbA
  by_cases c : hR e r ∧ hB t
  · rw [if_pos c, if_pos ⟨E.xhR.mpr c.1, c.2⟩]
    obtain ⟨i, hi, -, ec⟩ := hR.ix hn c.1
    rw [ec, E.xsw hn hi]
    rcases swF_or (dn e) (dl e) (dr e) (dt e) i with q | ⟨j, hj, q, -, -⟩
    · rw [if_pos q, if_pos q]
    · have hcl : (nI j).toNatClampNeg = j := cl_nI (by omega)
      rw [q, hcl, agD.mn E.2 hi hj, agD.md E.2 hi hj]
  · rw [if_neg c, if_neg (fun q => c ⟨E.xhR.mp q.1, q.2⟩)]
theorem eqD.xmsA (E : eqD d e) (hn : dn e ≤ 12) : msA d = msA e := by
  unfold msA
  rw [E.s.2.2.2, agD.mr E.2 hn]
theorem row14 {a : Int32} (h : ¬ (a.toInt < 0 ∨ 13 < a.toInt)) : ∃ z, z < 14 ∧ a = nI z ∧ a.toNatClampNeg = z := by
  rcases pk_ix a (n := 14) (by omega) with q | q | ⟨z, hz, ez⟩
  · rw [Int32.lt_iff_toInt_lt, show (0 : Int32).toInt = 0 from rfl] at q
    omega
  · rw [Int32.le_iff_toInt_le, show (nI 14 : Int32).toInt = 14 from rfl] at q
    omega
  · exact ⟨z, hz, ez, by rw [ez]; exact cl_nI (by omega)⟩
theorem eqD.xcnZ {k len : Nat} (E : eqD d e) (v : vD e) (hU : U = 4 ∨ U = 5) {z : Nat} (hz : z < 14) : cnZ d k len U z = cnZ e k len U z := by
  have hn : dn e ≤ 12 := v.1
  obtain ⟨e1, e2, e3, e4⟩ := E.s
  rcases (show z = 0 ∨ z = 1 ∨ z = 2 ∨ z = 3 ∨ z = 4 ∨ z = 5 ∨ z = 6 ∨ z = 7 ∨ z = 8 ∨ z = 9 ∨ z = 10 ∨ z = 11 ∨ z = 12 ∨ z = 13 by omega) with rfl | rfl | rfl | rfl | rfl | rfl | rfl | rfl | rfl | rfl | rfl | rfl | rfl | rfl
  · simp only [cnZ]
    exact e1
  · simp only [cnZ]
    exact e2
  · simp only [cnZ]
    exact e3
  · simp only [cnZ]
    rw [e4]
  · simp only [cnZ]
    rw [e4, agD.all E.2]
  · simp only [cnZ]
    rw [E.de hU]
  · simp only [cnZ]
    rw [e2]
  · simp only [cnZ]
    rw [e4, agD.all E.2, e2]
  · simp only [cnZ]
    rw [e3, e4, agD.an E.2 hn]
  · simp only [cnZ]
    rw [e4, agD.pr E.2 hn]
  · simp only [cnZ]
    unfold ol4
    rw [e4, agD.ol E.2, agD.ol E.2, agD.ol E.2, agD.ol E.2]
  · simp only [cnZ]
  · simp only [cnZ]
  · simp only [cnZ]
    rw [E.de hU, e4]
    by_cases c2 : deD e U = 0
    · rw [if_pos c2, if_pos c2]
    · rw [if_neg c2, if_neg c2]
      exact foldN_congr _ 0 _ (fun a j _ hj => by rw [E.dx hU (show j < dn e by omega)])
theorem eqD.xcnA {k len : Nat} (E : eqD d e) (v : vD e) (hU : U = 4 ∨ U = 5) : cnA d k len U a = cnA e k len U a := by
  unfold cnA
  by_cases c : a.toInt < 0 ∨ 13 < a.toInt
  · rw [if_pos c, if_pos c]
  · obtain ⟨z, hz, -, ez⟩ := row14 c
    rw [if_neg c, if_neg c, ez]
    exact E.xcnZ v hU hz
end EA
