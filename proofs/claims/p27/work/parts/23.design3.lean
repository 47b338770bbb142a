/-! Design: what is written -/
/-- nothing outside [lo, hi) is changed -/
def fr (w w' : xW) (lo hi : Nat) : Prop := w'.1 = w.1 ∧ w'.2.2 = w.2.2 ∧ ∀ k, (k < lo ∨ hi ≤ k) → rd w' k = rd w k
theorem fr.rf {w : xW} {lo hi : Nat} : fr w w lo hi := ⟨rfl, rfl, fun _ _ => rfl⟩
theorem fr.tr {w1 w2 w3 : xW} {lo hi : Nat} (h1 : fr w1 w2 lo hi) (h2 : fr w2 w3 lo hi) : fr w1 w3 lo hi := ⟨h2.1.trans h1.1, h2.2.1.trans h1.2.1, fun k hk => (h2.2.2 k hk).trans (h1.2.2 k hk)⟩
theorem fr.up {w w' : xW} {lo hi lo' hi' : Nat} (h : fr w w' lo hi) (h1 : lo' ≤ lo) (h2 : hi ≤ hi') : fr w w' lo' hi' := ⟨h.1, h.2.1, fun k hk => h.2.2 k (by omega)⟩
theorem fr.wr {w : xW} {a lo hi : Nat} {c : xC} (h1 : lo ≤ a) (h2 : a < hi) : fr w (wr w a c) lo hi := ⟨rfl, rfl, fun k hk => rd_n (by omega)⟩
theorem isD.fr {w w' : xW} {o lo hi : Nat} {s p l : Int32} {n : Nat} {lf rf tf mf : Nat → Int32} (D : isD w o s p l n lf rf tf mf) (h : fr w w' lo hi) (ho : o + 5 ≤ lo ∨ hi ≤ o) : isD w' o s p l n lf rf tf mf := by
  obtain ⟨h0, h1, h2, h3, h4⟩ := D
  refine ⟨(h.2.2 o (by omega)).trans h0, (h.2.2 _ (by omega)).trans h1, (h.2.2 _ (by omega)).trans h2, (h.2.2 _ (by omega)).trans h3, (h.2.2 _ (by omega)).trans h4⟩
theorem isD.s0 {w : xW} {o : Nat} {s p l s' p' l' : Int32} {n n' : Nat} {lf rf tf mf : Nat → Int32} (D : isD w o s p l n lf rf tf mf) : isD (wr w o (.inr (0, [.int s', .int p', .int l', .int (nI n'), .ref (o + 1), .ref (o + 2), .ref (o + 3), .ref (o + 4)]))) o s' p' l' n' lf rf tf mf := by
  obtain ⟨h0, h1, h2, h3, h4⟩ := D
  exact ⟨rd_s, (rd_n (by omega)).trans h1, (rd_n (by omega)).trans h2, (rd_n (by omega)).trans h3, (rd_n (by omega)).trans h4⟩
theorem isD.s1 {w : xW} {o : Nat} {s p l : Int32} {n : Nat} {lf rf tf mf g : Nat → Int32} (D : isD w o s p l n lf rf tf mf) : isD (wr w (o + 1) (.inl (0, 12, .inl g))) o s p l n g rf tf mf := by
  obtain ⟨h0, h1, h2, h3, h4⟩ := D
  exact ⟨(rd_n (by omega)).trans h0, rd_s, (rd_n (by omega)).trans h2, (rd_n (by omega)).trans h3, (rd_n (by omega)).trans h4⟩
theorem isD.s2 {w : xW} {o : Nat} {s p l : Int32} {n : Nat} {lf rf tf mf g : Nat → Int32} (D : isD w o s p l n lf rf tf mf) : isD (wr w (o + 2) (.inl (0, 12, .inl g))) o s p l n lf g tf mf := by
  obtain ⟨h0, h1, h2, h3, h4⟩ := D
  exact ⟨(rd_n (by omega)).trans h0, (rd_n (by omega)).trans h1, rd_s, (rd_n (by omega)).trans h3, (rd_n (by omega)).trans h4⟩
theorem isD.s3 {w : xW} {o : Nat} {s p l : Int32} {n : Nat} {lf rf tf mf g : Nat → Int32} (D : isD w o s p l n lf rf tf mf) : isD (wr w (o + 3) (.inl (0, 12, .inl g))) o s p l n lf rf g mf := by
  obtain ⟨h0, h1, h2, h3, h4⟩ := D
  exact ⟨(rd_n (by omega)).trans h0, (rd_n (by omega)).trans h1, (rd_n (by omega)).trans h2, rd_s, (rd_n (by omega)).trans h4⟩
theorem isD.s4 {w : xW} {o : Nat} {s p l : Int32} {n : Nat} {lf rf tf mf g : Nat → Int32} (D : isD w o s p l n lf rf tf mf) : isD (wr w (o + 4) (.inl (0, 72, .inl g))) o s p l n lf rf tf g := by
  obtain ⟨h0, h1, h2, h3, h4⟩ := D
  exact ⟨(rd_n (by omega)).trans h0, (rd_n (by omega)).trans h1, (rd_n (by omega)).trans h2, (rd_n (by omega)).trans h3, rd_s⟩
section DW
variable {w : xW} {b o o' : Nat} {s p l s' p' l' : Int32} {n n' : Nat} {lf rf tf mf lf' rf' tf' mf' : Nat → Int32} {Q : Option Value → xW → Prop}
/-- readings j, j + 1 .. of a row, k of them, out of another design's row -/
def cpF (mf' : Nat → Int32) (i i' : Nat) : Nat → Nat → (Nat → Int32) → (Nat → Int32)
  | 0, _, f => f
  | k + 1, j, f => cpF mf' i i' k (j + 1) (upd f (6 * i' + j) (mf' (6 * i + j)))
theorem cpF_at (mf' : Nat → Int32) (i i' : Nat) : ∀ (k j : Nat) (f : Nat → Int32) (x : Nat), cpF mf' i i' k j f x = if 6 * i' + j ≤ x ∧ x < 6 * i' + j + k then mf' (6 * i + (x - 6 * i')) else f x
  | 0, j, f, x => by
    rw [if_neg (by omega)]
    rfl
  | k + 1, j, f, x => by
    show cpF mf' i i' k (j + 1) (upd f (6 * i' + j) (mf' (6 * i + j))) x = _
    rw [cpF_at mf' i i' k (j + 1)]
    by_cases h1 : 6 * i' + (j + 1) ≤ x ∧ x < 6 * i' + (j + 1) + k
    · rw [if_pos h1, if_pos (by omega)]
    · rw [if_neg h1]
      by_cases h2 : x = 6 * i' + j
      · subst h2
        rw [pk_us, if_pos (by omega), show 6 * i' + j - 6 * i' = j by omega]
      · rw [pk_un h2, if_neg (by omega)]
theorem m6 {i j : Nat} : nI i * 6 + nI j = nI (6 * i + j) := by
  rw [show (6 : Int32) = nI 6 from rfl, pk_mul, nI_add, Nat.mul_comm]
/-- copyRow between two designs -/
theorem l2 (D : isD w o s p l n lf rf tf mf) (D' : isD w o' s' p' l' n' lf' rf' tf' mf') (ho : o + 5 ≤ o' ∨ o' + 5 ≤ o) {i i' t : Nat} (hi : i < 12) (hi' : i' < 12) (ht : tf i' = nI t) (ht6 : t ≤ 6) : ∀ (k j : Nat) (w : xW) (mf : Nat → Int32), isD w o s p l n lf rf tf mf → isD w o' s' p' l' n' lf' rf' tf' mf' → j + k = t → (∀ w2, fr w w2 o (o + 5) → isD w2 o s p l n lf rf tf (cpF mf' i i' k j mf) → Q none w2) → Wp 2 b 39 [.ref o, .ref o', .int (nI i), .int (nI i'), .int (nI j)] [] w Q := by
  have hx : x_pl (nI i) 12 := x_pl_nI (by omega) (by omega)
  have hcl : (nI i).toNatClampNeg = i := cl_nI (by omega)
  have hx' : x_pl (nI i') 12 := x_pl_nI (by omega) (by omega)
  have hcl' : (nI i').toNatClampNeg = i' := cl_nI (by omega)
  clear D D'
  intro k
  induction k with
  | zero =>
    intro j w mf D D' hj K
    have D0 := D
    obtain ⟨h0, h1, h2, h3, h4⟩ := D
    have hc : nI t ≤ nI j := nI_le (by omega) (by omega)
    simp only [q2_39, q2_41, q2_42, q2_45, q2_46, q2_47, q2_80, gF0, gF1, gF2, gF3, gF4, gF5, gF6, gF7, gF8, gF9, gF10, gF11, gF12, gF13, gF14, gF15, gF16, gF17, gF18, gF19, pF0, pF1, pF2, pF3, pF4, pF5, pF6, pF7, pF8, pF9, pF10, pF11, pF12, pF13, pF14, pF15, pF16, pF17, pF18, pF19, aI_mk, aL_mk, aA_mk, sI_mk, sL_mk, sA_mk, isO_mk, rl_some, rl_none, true_and, and_true, true_or, or_true, wr_1, h0, h3, hx', hcl', ht, if_pos hc]
    exact K w fr.rf D0
  | succ k ih =>
    intro j w mf D D' hj K
    have D0 := D
    have D0' := D'
    obtain ⟨h0, h1, h2, h3, h4⟩ := D
    obtain ⟨g0, g1, g2, g3, g4⟩ := D'
    have hc : ¬ nI t ≤ nI j := by rw [nI_le' (by omega) (by omega)]; omega
    have hy : x_pl (nI (6 * i + j)) 72 := x_pl_nI (by omega) (by omega)
    have hyl : (nI (6 * i + j)).toNatClampNeg = 6 * i + j := cl_nI (by omega)
    have hy' : x_pl (nI (6 * i' + j)) 72 := x_pl_nI (by omega) (by omega)
    have hyl' : (nI (6 * i' + j)).toNatClampNeg = 6 * i' + j := cl_nI (by omega)
    simp only [q2_39]
    simp only [q2_41, q2_42, q2_45, q2_46, q2_47, q2_50, q2_51, q2_54, q2_55, q2_57, q2_58, q2_60, q2_61, q2_62, q2_65, q2_66, q2_68, q2_69, q2_71, q2_72, q2_73, q2_74, q2_77, gF0, gF1, gF2, gF3, gF4, gF5, gF6, gF7, gF8, gF9, gF10, gF11, gF12, gF13, gF14, gF15, gF16, gF17, gF18, gF19, pF0, pF1, pF2, pF3, pF4, pF5, pF6, pF7, pF8, pF9, pF10, pF11, pF12, pF13, pF14, pF15, pF16, pF17, pF18, pF19, aI_mk, aL_mk, aA_mk, sI_mk, sL_mk, sA_mk, isO_mk, rl_some, rl_none, true_and, and_true, true_or, or_true, wr_1, h0, h3, h4, g0, g4, hx', hcl', ht, if_neg hc, m6, hy, hyl, hy', hyl', nI_1]
    refine ih (j + 1) _ _ D0.s4 (D0'.fr (fr.wr (lo := o) (hi := o + 5) (by omega) (by omega)) (by omega)) (by omega) (fun w2 f2 d2 => K w2 ?_ d2)
    exact (fr.wr (by omega) (by omega)).tr f2
theorem c2 (D : isD w o s p l n lf rf tf mf) (D' : isD w o' s' p' l' n' lf' rf' tf' mf') (ho : o + 5 ≤ o' ∨ o' + 5 ≤ o) {i i' t : Nat} (hi : i < 12) (hi' : i' < 12) (ht : tf' i = nI t) (ht6 : t ≤ 6) (K : ∀ w2, fr w w2 o (o + 5) → isD w2 o s p l n (upd lf i' (lf' i)) (upd rf i' (rf' i)) (upd tf i' (tf' i)) (cpF mf' i i' t 0 mf) → Q none w2) : Wp 2 b 0 [.ref o, .ref o', .int (nI i), .int (nI i'), x_no] [] w Q := by
  have D0 := D
  have D0' := D'
  obtain ⟨h0, h1, h2, h3, h4⟩ := D
  obtain ⟨g0, g1, g2, g3, g4⟩ := D'
  have hx : x_pl (nI i) 12 := x_pl_nI (by omega) (by omega)
  have hcl : (nI i).toNatClampNeg = i := cl_nI (by omega)
  have hx' : x_pl (nI i') 12 := x_pl_nI (by omega) (by omega)
  have hcl' : (nI i').toNatClampNeg = i' := cl_nI (by omega)
  simp only [q2_0, q2_1, q2_4, q2_5, q2_6, q2_9, q2_10, q2_11, gF0, gF1, gF2, gF3, gF4, gF5, gF6, gF7, gF8, gF9, gF10, gF11, gF12, gF13, gF14, gF15, gF16, gF17, gF18, gF19, pF0, pF1, pF2, pF3, pF4, pF5, pF6, pF7, pF8, pF9, pF10, pF11, pF12, pF13, pF14, pF15, pF16, pF17, pF18, pF19, aI_mk, aL_mk, aA_mk, sI_mk, sL_mk, sA_mk, isO_mk, rl_some, rl_none, true_and, and_true, true_or, or_true, wr_1, h0, h1, g0, g1, hx, hcl, hx', hcl']
  have E1 := D0.s1 (g := upd lf i' (lf' i))
  have F1 := D0'.fr (fr.wr (w := w) (a := o + 1) (c := .inl (0, 12, .inl (upd lf i' (lf' i)))) (lo := o) (hi := o + 5) (by omega) (by omega)) (by omega)
  have f1 : fr w (wr w (o + 1) (.inl (0, 12, .inl (upd lf i' (lf' i))))) o (o + 5) := fr.wr (by omega) (by omega)
  generalize wr w (o + 1) (.inl (0, 12, .inl (upd lf i' (lf' i)))) = w1 at E1 F1 f1 ⊢
  have E10 := E1
  have F10 := F1
  obtain ⟨h0, h1, h2, h3, h4⟩ := E1
  obtain ⟨g0, g1, g2, g3, g4⟩ := F1
  simp only [q2_12, q2_13, q2_16, q2_17, q2_18, q2_21, q2_22, q2_23, gF0, gF1, gF2, gF3, gF4, gF5, gF6, gF7, gF8, gF9, gF10, gF11, gF12, gF13, gF14, gF15, gF16, gF17, gF18, gF19, pF0, pF1, pF2, pF3, pF4, pF5, pF6, pF7, pF8, pF9, pF10, pF11, pF12, pF13, pF14, pF15, pF16, pF17, pF18, pF19, aI_mk, aL_mk, aA_mk, sI_mk, sL_mk, sA_mk, isO_mk, rl_some, rl_none, true_and, and_true, true_or, or_true, wr_1, h0, h2, g0, g2, hx, hcl, hx', hcl']
  have E2 := E10.s2 (g := upd rf i' (rf' i))
  have F2 := F10.fr (fr.wr (w := w1) (a := o + 2) (c := .inl (0, 12, .inl (upd rf i' (rf' i)))) (lo := o) (hi := o + 5) (by omega) (by omega)) (by omega)
  have f2 : fr w (wr w1 (o + 2) (.inl (0, 12, .inl (upd rf i' (rf' i))))) o (o + 5) := f1.tr (fr.wr (by omega) (by omega))
  generalize wr w1 (o + 2) (.inl (0, 12, .inl (upd rf i' (rf' i)))) = w2 at E2 F2 f2 ⊢
  have E20 := E2
  have F20 := F2
  obtain ⟨h0, h1, h2, h3, h4⟩ := E2
  obtain ⟨g0, g1, g2, g3, g4⟩ := F2
  simp only [q2_24, q2_25, q2_28, q2_29, q2_30, q2_33, q2_34, q2_35, q2_36, q2_37, gF0, gF1, gF2, gF3, gF4, gF5, gF6, gF7, gF8, gF9, gF10, gF11, gF12, gF13, gF14, gF15, gF16, gF17, gF18, gF19, pF0, pF1, pF2, pF3, pF4, pF5, pF6, pF7, pF8, pF9, pF10, pF11, pF12, pF13, pF14, pF15, pF16, pF17, pF18, pF19, aI_mk, aL_mk, aA_mk, sI_mk, sL_mk, sA_mk, isO_mk, rl_some, rl_none, true_and, and_true, true_or, or_true, wr_1, h0, h3, g0, g3, hx, hcl, hx', hcl']
  have E3 := E20.s3 (g := upd tf i' (tf' i))
  have F3 := F20.fr (fr.wr (w := w2) (a := o + 3) (c := .inl (0, 12, .inl (upd tf i' (tf' i)))) (lo := o) (hi := o + 5) (by omega) (by omega)) (by omega)
  have f3 : fr w (wr w2 (o + 3) (.inl (0, 12, .inl (upd tf i' (tf' i))))) o (o + 5) := f2.tr (fr.wr (by omega) (by omega))
  generalize wr w2 (o + 3) (.inl (0, 12, .inl (upd tf i' (tf' i)))) = w3 at E3 F3 f3 ⊢
  exact l2 E3 F3 ho hi hi' (t := t) (by rw [pk_us]; exact ht) ht6 t 0 w3 mf E3 F3 (by omega) (fun w4 f4 d4 => K w4 (f3.tr f4) d4)
end DW
