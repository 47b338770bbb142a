/-! New cells; what a step keeps; calls; the whole run -/
section XN
variable {p : Program} {l : Launch} {e : Env} {R : Room} {s : State} {m : MethodId} {args : Array Value} {below : List Frame} {meth : Method} {c : Code} {Qf : State → Prop} {D : va_G} {A : Nat → Prop} {H0 : Heap} {ρ0 κ0 : Nat → Nat} {y b pc pc1 : Nat} {ls st ls1 st1 : List Value} {w w1 : xW}
theorem xRel.grow {ρ κ ρ' κ' : Nat → Nat} {H H1 : Heap} {locs locs1 : List Loc} (h : xRel ρ κ D A H0 H locs s w) (hwf : (List.range w.1).all (fun k => x_wfc w.1 (w.2.1 k)) = true) (hle : w.1 ≤ w1.1) (hold : ∀ k, k < w.1 → w1.2.1 k = w.2.1 k) (hdead : x_dead w1) (hρ : ∀ k, k < w.1 ∨ k = x_scr → ρ' k = ρ k) (hκ : ∀ k, k < w.1 → κ' k = κ k) {N : va_W} (hN : N = (List.range (w1.1 - w.1)).map (fun j => (ρ' (w.1 + j), ce ρ' (κ' (w.1 + j)) (w1.2.1 (w.1 + j))))) (hP : va_P D vwCl (wl ρ κ w ++ N) H1) (hD : va_D A (wl ρ κ w ++ N)) (hS : va_S A H0 H1 locs1) (hty : ∀ (k t : Nat) (a : vp_A), w.1 ≤ k → k < w1.1 → w1.2.1 k = .inl (t, a) → ArrOfT s (κ' k) (tyc t) ∧ va_RA s (κ' k) (tyc t)) : xRel ρ' κ' D A H0 H1 locs1 s w1 := by
  obtain ⟨-, -, -, hT, -⟩ := h
  have hlen : (wl ρ κ w).length = w.1 := by simp [wl]
  have key : ∀ (k : Nat) (q : Nat × va_E), (wl ρ' κ' w1)[k]? = some q → ∃ q2, (wl ρ κ w ++ N)[k]? = some q2 ∧ q2.1 = q.1 ∧ (va_at D vwCl q2 H1 → va_at D vwCl q H1) := by
    intro k q hq
    obtain ⟨hk, rfl⟩ := wl_inv hq
    by_cases hk2 : k < w.1
    · refine ⟨_, by rw [List.getElem?_append_left (by rw [hlen]; exact hk2), wl_get hk2], (hρ k (Or.inl hk2)).symm, fun hat => ?_⟩
      have hc : x_wfc w.1 (w.2.1 k) = true := List.all_eq_true.mp hwf k (List.mem_range.mpr hk2)
      rw [hold k hk2, hκ k hk2, hρ k (Or.inl hk2)]
      exact (ce_same hc hρ).2 D vwCl H1 (ρ k) hat
    · refine ⟨(ρ' k, ce ρ' (κ' k) (w1.2.1 k)), ?_, rfl, fun hat => hat⟩
      rw [List.getElem?_append_right (by rw [hlen]; omega), hN, List.getElem?_map, hlen, List.getElem?_range (by omega)]
      show some (ρ' (w.1 + (k - w.1)), _) = _
      rw [show w.1 + (k - w.1) = k by omega]
  refine ⟨fun k q hq => ?_, ⟨fun i j x z hi hj hxz => ?_, fun k q hq => ?_⟩, hS, fun k t a hk ha => ?_, hdead⟩
  · obtain ⟨q2, g1, -, g3⟩ := key k q hq
    exact g3 (hP k q2 g1)
  · obtain ⟨x2, g1, g2, -⟩ := key i x hi
    obtain ⟨z2, g4, g5, -⟩ := key j z hj
    exact hD.1 i j x2 z2 g1 g4 (by rw [g2, g5]; exact hxz)
  · obtain ⟨q2, g1, g2, -⟩ := key k q hq
    rw [← g2]
    exact hD.2 k q2 g1
  · by_cases hk2 : k < w.1
    · rw [hκ k hk2]
      rw [hold k hk2] at ha
      exact hT k t a hk2 ha
    · exact hty k t a (by omega) hk ha
theorem xl_same {ρ ρ' : Nat → Nat} {n : Nat} (h : ls.all (x_wfv n) = true) (hρ : ∀ k, k < n ∨ k = x_scr → ρ' k = ρ k) {als : Array Slot} {N : Nat} (hl : lv_has als N (xl ρ ls)) : lv_has als N (xl ρ' ls) := by
  refine lv_mono hl fun q hq => ?_
  obtain ⟨v, h1, h2, h3⟩ := xl_mem.mp hq
  refine xl_mem.mpr ⟨v, h1, h2, ?_⟩
  rw [h3]
  exact cv_same (List.all_eq_true.mp h v (List.mem_of_getElem? h1)) hρ
theorem x_wf_ok (h : x_wf w ls st = true) : (List.range w.1).all (fun k => x_wfc w.1 (w.2.1 k)) = true ∧ ls.all (x_wfv w.1) = true ∧ st.all (x_wfv w.1) = true ∧ w.1 < 1000 := by
  simp only [x_wf, Bool.and_eq_true, decide_eq_true_eq] at h
  exact ⟨h.1.1.1, h.1.1.2, h.1.2, h.2⟩
/-- behind a step that made cells -/
theorem xGo_grow {r : List Value} (kk : xGo p l e R s m args below meth c Qf D A H0 ρ0 κ0 y b pc1 ls (.ref w.1 :: r) w1) {ρ κ ρ' κ' : Nat → Nat} {H1 : Heap} {locs1 : List Loc} {als : Array Slot} (h1 : b ≤ w.1) (h3 : ∀ k, k < b ∨ k = x_scr → ρ k = ρ0 k) (h4 : ∀ k, k < b → κ k = κ0 k) (h7 : xSc y ρ A H0 s w) (h8 : lv_has als (m_ml y) (xl ρ ls)) (hwf : x_wf w ls r = true) (hlt : w.1 < w1.1) (hb : w1.1 - b ≤ m_mc y) (hρ : ∀ k, k < w.1 ∨ k = x_scr → ρ' k = ρ k) (hκ : ∀ k, k < w.1 → κ' k = κ k) (hrel : xRel ρ' κ' D A H0 H1 locs1 s w1) (hw : w1.2.2 = w.2.2) {cs sl : Nat} (hcs : cs ≤ w1.1 - b) (hsl : sl ≤ 600 * (w1.1 - b)) : W p l e R s m args below meth c H1 locs1 cs sl Qf (F0 m pc1 als (.ref (ρ' w.1) :: r.map (cv ρ))) := by
  obtain ⟨f1, f2, f3, f4⟩ := x_wf_ok hwf
  refine W.widen hcs hsl ?_
  have := kk ρ' κ' H1 locs1 als (by omega) (fun z => absurd z (by omega)) (fun k hk => (hρ k (hk.elim (fun q => Or.inl (by omega)) Or.inr)).trans (h3 k hk)) (fun k hk => (hκ k (by omega)).trans (h4 k hk)) hb hrel (fun hy => by
    obtain ⟨s1, s2, s3⟩ := h7 hy
    rw [hρ _ (Or.inr rfl), hw]
    exact ⟨s1, s2, s3⟩) (xl_same f2 hρ h8)
  rw [List.map_cons, cvs_same f3 hρ] at this
  exact this
theorem x_new_dead {cell : xC} (h : x_dead w) : x_dead (x_new w cell) := fun k hk => by
  have hk' : w.1 + 1 ≤ k := hk
  show (if k = w.1 then cell else w.2.1 k) = _
  rw [if_neg (by omega)]
  exact h k (by omega)
theorem x_new_at {cell : xC} : (x_new w cell).2.1 w.1 = cell := if_pos rfl
theorem x_new_ne {cell : xC} {k : Nat} (h : k ≠ w.1) : (x_new w cell).2.1 k = w.2.1 k := if_neg h
theorem va_up_lt {f : Nat → Nat} {n q k : Nat} (hn : n < 1000) (hk : k < n ∨ k = x_scr) : va_up f n q k = f k := if_neg (by
  rcases hk with h | h
  · omega
  · rw [h]
    unfold x_scr
    omega)
/-- one new cell -/
theorem xGo_new {r : List Value} {cell : xC} (hA : ∀ q, H0.size ≤ q → A q) (kk : xGo p l e R s m args below meth c Qf D A H0 ρ0 κ0 y b pc1 ls (.ref w.1 :: r) (x_new w cell)) {ρ κ : Nat → Nat} {H H1 : Heap} {locs locs1 : List Loc} {als : Array Slot} (h1 : b ≤ w.1) (h3 : ∀ k, k < b ∨ k = x_scr → ρ k = ρ0 k) (h4 : ∀ k, k < b → κ k = κ0 k) (h6 : xRel ρ κ D A H0 H locs s w) (h7 : xSc y ρ A H0 s w) (h8 : lv_has als (m_ml y) (xl ρ ls)) (hwf : x_wf w ls r = true) (hb : w.1 - b + 1 ≤ m_mc y) {q cA N : Nat} {en : va_E} (he : ce (va_up ρ w.1 q) cA cell = en) (hP : va_P D vwCl (wl ρ κ w ++ [(q, en)]) H1) (hD : va_D A (wl ρ κ w ++ [(q, en)])) (hS : va_S A H0 H1 locs1) (hty : ∀ (t : Nat) (a : vp_A), cell = .inl (t, a) → ArrOfT s cA (tyc t) ∧ va_RA s cA (tyc t)) (hN : N ≤ 600) : W p l e R s m args below meth c H1 locs1 (w.1 - b + 1) (600 * (w.1 - b) + N) Qf (F0 m pc1 als (.ref q :: r.map (cv ρ))) := by
  obtain ⟨f1, f2, f3, f4⟩ := x_wf_ok hwf
  have hz : (x_new w cell).1 = w.1 + 1 := rfl
  have hρ : ∀ k, k < w.1 ∨ k = x_scr → va_up ρ w.1 q k = ρ k := fun k hk => va_up_lt f4 hk
  have hκ : ∀ k, k < w.1 → va_up κ w.1 cA k = κ k := fun k hk => va_up_lt f4 (Or.inl hk)
  have hrel : xRel (va_up ρ w.1 q) (va_up κ w.1 cA) D A H0 H1 locs1 s (x_new w cell) := by
    refine h6.grow f1 (by rw [hz]; omega) (fun k hk => x_new_ne (by omega)) (x_new_dead h6.2.2.2.2) hρ hκ ?_ hP hD hS ?_
    · rw [hz, show w.1 + 1 - w.1 = 1 by omega]
      show [(q, en)] = [(va_up ρ w.1 q (w.1 + 0), ce (va_up ρ w.1 q) (va_up κ w.1 cA (w.1 + 0)) ((x_new w cell).2.1 (w.1 + 0)))]
      rw [Nat.add_zero, x_new_at, va_up_self, va_up_self, he]
    · intro k t a hk1 hk2 hx
      have e : k = w.1 := by rw [hz] at hk2; omega
      subst e
      rw [x_new_at] at hx
      rw [va_up_self]
      exact hty t a hx
  have := xGo_grow (ρ := ρ) (κ := κ) kk h1 h3 h4 h7 h8 hwf (by rw [hz]; omega) (by rw [hz]; omega) hρ hκ hrel rfl (cs := w.1 - b + 1) (sl := 600 * (w.1 - b) + N) (by rw [hz]; omega) (by rw [hz]; omega)
  rw [va_up_self] at this
  exact this
theorem x_dfl {ci : Nat} (h : ci < 6) : ∀ j, j < x_fn ci → defaultValue (x_ty ci j) = vp_V (x_df ci) j := by
  intro j hj
  obtain ⟨h1, h2, -⟩ := x_fks ci h j hj
  unfold vp_V x_df
  rw [List.getD_eq_getElem?_getD, List.getElem?_map, h1]
  rcases h2 with e | e | ⟨t, e⟩ | ⟨t, e⟩ <;> rw [e] <;> rfl
theorem x_df_cv {ρ : Nat → Nat} {ci : Nat} : (x_df ci).map (cv ρ) = x_df ci := by
  unfold x_df
  rw [List.map_map]
  apply List.map_congr_left
  intro q _
  show cv ρ (match q.1 with | 0 => .int 0 | 1 => .long 0 | _ => .null) = (match q.1 with | 0 => .int 0 | 1 => .long 0 | _ => .null)
  split <;> rfl
theorem x_fn_le : ∀ c, c < 6 → x_fn c ≤ 600 := by decide +kernel
theorem m_room (hC : xCx p R s m args meth c D A H0 y) : m_dp y ≤ R.frames ∧ 36 * m_dp y ≤ R.locals ∧ m_mc y ≤ R.cells ∧ 600 * m_mc y ≤ R.slots := by
  obtain ⟨-, -, -, -, -, -, hR, -, -, hy⟩ := hC
  rw [hR]
  exact m_rm_ok y hy
theorem sn_nobj (hC : xCx p R s m args meth c D A H0 y) {idx : Nat} (hd : decode (m_bc y) pc = .ok (.new idx, 3)) (hs : x_nobj y b idx pc ls st w = some (.inl (pc1, ls1, st1, w1))) (kk : xGo p l e R s m args below meth c Qf D A H0 ρ0 κ0 y b pc1 ls1 st1 w1) : xGo p l e R s m args below meth c Qf D A H0 ρ0 κ0 y b pc ls st w := by
  unfold x_nobj at hs
  obtain ⟨r1, r2, r3, r4⟩ := m_room hC
  obtain ⟨hx, hb, hml, hown, hts, hin, hR, hA, hK, hy⟩ := hC
  split at hs
  · rename_i ci z hci
    split at hs
    · rename_i hok
      cases hs
      intro ρ κ H locs als h1 h2 h3 h4 h5 h6 h7 h8
      obtain ⟨g1, g2, g3, g4⟩ := x_nl_ok hci
      have hfn := x_fn_le ci g4
      refine va_new (fs := x_df ci) hx hb hts (x_layG _ g4) (x_ty ci) (x_tys _ g4) hown (hts _ g1) (hts _ g2) (hts _ g3) (xK0 hK) h6.1 h6.2.1 h6.2.2.1 hA (x_cls _ g4) (x_dfl g4) (by omega) (by omega) hd (fun q H1 hP hD hS => ?_)
      exact xGo_new hA kk h1 h3 h4 h6 h7 h8 hok.2 hok.1 (cA := 0) (en := .inr (ci, x_df ci)) (by show (Sum.inr (ci, (x_df ci).map _) : va_E) = _; rw [x_df_cv]) hP hD hS (fun t a h => by cases h) hfn
    · cases hs
  · cases hs
theorem xK_last {cA : ClassId} {ty : FieldType} (h : va_K D vwCl ([] ++ [(cA, ty)]) s) : ArrOfT s cA ty ∧ va_RA s cA ty := h.2 0 _ rfl
theorem sn_narr (hC : xCx p R s m args meth c D A H0 y) {t : Jvm.ClassFile.ArrayType} (hd : decode (m_bc y) pc = .ok (.newarray t, 2)) (hs : x_narr y b t pc ls st w = some (.inl (pc1, ls1, st1, w1))) (kk : xGo p l e R s m args below meth c Qf D A H0 ρ0 κ0 y b pc1 ls1 st1 w1) : xGo p l e R s m args below meth c Qf D A H0 ρ0 κ0 y b pc ls st w := by
  unfold x_narr at hs
  obtain ⟨r1, r2, r3, r4⟩ := m_room hC
  obtain ⟨hx, hb, hml, hown, hts, hin, hR, hA, hK, hy⟩ := hC
  obtain ⟨-, -, a1, a2, a3, -⟩ := x_mnaok
  split at hs
  · rename_i n r
    split at hs
    · rename_i hok
      obtain ⟨o1, o2, o3, o4⟩ := hok
      split at hs
      · cases hs
        intro ρ κ H locs als h1 h2 h3 h4 h5 h6 h7 h8
        refine va_newa (atype := .int) (ty := .int) (a0 := (n.toNatClampNeg, .inl (fun _ => 0))) hx hb (hts _ (x_gwI (x_w a2) rfl)) rfl (xK0 hK) h6.1 h6.2.1 h6.2.2.1 hA (fun cA => rfl) o3 rfl (by show _ * 4 ≤ _; omega) (by omega) (by omega) hd (fun q cA H1 hK1 hP hD hS => ?_)
        exact xGo_new hA kk h1 h3 h4 h6 h7 h8 o2 o1 rfl hP hD hS (fun t a h => by cases h; exact xK_last hK1) o4
      · cases hs
        intro ρ κ H locs als h1 h2 h3 h4 h5 h6 h7 h8
        refine va_newa (atype := .char) (ty := .char) (a0 := (n.toNatClampNeg, .inl (fun _ => 0))) hx hb (hts _ (x_gwI (x_w a3) rfl)) rfl (xK0 hK) h6.1 h6.2.1 h6.2.2.1 hA (fun cA => rfl) o3 rfl (by show _ * 2 ≤ _; omega) (by omega) (by omega) hd (fun q cA H1 hK1 hP hD hS => ?_)
        exact xGo_new hA kk h1 h3 h4 h6 h7 h8 o2 o1 rfl hP hD hS (fun t a h => by cases h; exact xK_last hK1) o4
      · cases hs
        intro ρ κ H locs als h1 h2 h3 h4 h5 h6 h7 h8
        refine va_newa (atype := .long) (ty := .long) (a0 := (n.toNatClampNeg, .inr (.inl (fun _ => 0)))) hx hb (hts _ (x_gwI (x_w a1) rfl)) rfl (xK0 hK) h6.1 h6.2.1 h6.2.2.1 hA (fun cA => rfl) o3 rfl (by show _ * 8 ≤ _; omega) (by omega) (by omega) hd (fun q cA H1 hK1 hP hD hS => ?_)
        exact xGo_new hA kk h1 h3 h4 h6 h7 h8 o2 o1 rfl hP hD hS (fun t a h => by cases h; exact xK_last hK1) o4
      · cases hs
    · cases hs
  · cases hs
theorem sn_nref (hC : xCx p R s m args meth c D A H0 y) {idx : Nat} (hd : decode (m_bc y) pc = .ok (.anewarray idx, 3)) (hs : x_nref y b idx pc ls st w = some (.inl (pc1, ls1, st1, w1))) (kk : xGo p l e R s m args below meth c Qf D A H0 ρ0 κ0 y b pc1 ls1 st1 w1) : xGo p l e R s m args below meth c Qf D A H0 ρ0 κ0 y b pc ls st w := by
  unfold x_nref at hs
  obtain ⟨r1, r2, r3, r4⟩ := m_room hC
  obtain ⟨hx, hb, hml, hown, hts, hin, hR, hA, hK, hy⟩ := hC
  split at hs
  · rename_i n r
    split at hs
    · rename_i hok
      obtain ⟨o1, o2, o3, o4, o5⟩ := hok
      cases hs
      intro ρ κ H locs als h1 h2 h3 h4 h5 h6 h7 h8
      obtain ⟨g1, -, -, -⟩ := x_nl_ok o5
      refine va_newq (C := "WeighingDesign$Design") hx hb hown (hts _ g1) hK.2.1 (xK0 hK) h6.1 h6.2.1 h6.2.2.1 hA o3 rfl (by omega) (by omega) (by omega) hd (fun q cA H1 hK1 hP hD hS => ?_)
      exact xGo_new hA kk h1 h3 h4 h6 h7 h8 o2 o1 rfl hP hD hS (fun t a h => by cases h; exact xK_last hK1) o4
    · cases hs
  · cases hs
theorem x_rows_1 (mm : Nat) : ∀ k : Nat, (x_rows w mm k).1 = w.1 + k ∧ (x_rows w mm k).2.2 = w.2.2
  | 0 => ⟨rfl, rfl⟩
  | k + 1 => by
    obtain ⟨h1, h2⟩ := x_rows_1 mm k
    exact ⟨by show (x_rows w mm k).1 + 1 = _; omega, h2⟩
theorem x_rows_at (mm : Nat) : ∀ k j : Nat, (x_rows w mm k).2.1 j = if w.1 ≤ j ∧ j < w.1 + k then .inl (1, mm, .inr (.inl (fun _ => 0))) else w.2.1 j
  | 0, j => by
    rw [if_neg (by omega)]
    rfl
  | k + 1, j => by
    have ih := x_rows_at mm k j
    obtain ⟨h1, -⟩ := x_rows_1 (w := w) mm k
    show (if j = (x_rows w mm k).1 then _ else (x_rows w mm k).2.1 j) = _
    rw [h1, ih]
    by_cases e : j = w.1 + k
    · rw [if_pos e, if_pos (by omega)]
    · rw [if_neg e]
      by_cases e2 : w.1 ≤ j ∧ j < w.1 + k
      · rw [if_pos e2, if_pos (by omega)]
      · rw [if_neg e2, if_neg (by omega)]
theorem x_rows_dead (mm k : Nat) (h : x_dead w) : x_dead (x_rows w mm k) := fun j hj => by
  rw [(x_rows_1 mm k).1] at hj
  rw [x_rows_at, if_neg (by omega)]
  exact h j (by omega)
theorem sn_ngrid (hC : xCx p R s m args meth c D A H0 y) {idx : Nat} (hd : decode (m_bc y) pc = .ok (.multianewarray idx 2, 4)) (hs : x_ngrid y b idx pc ls st w = some (.inl (pc1, ls1, st1, w1))) (kk : xGo p l e R s m args below meth c Qf D A H0 ρ0 κ0 y b pc1 ls1 st1 w1) : xGo p l e R s m args below meth c Qf D A H0 ρ0 κ0 y b pc ls st w := by
  unfold x_ngrid at hs
  obtain ⟨r1, r2, r3, r4⟩ := m_room hC
  obtain ⟨hx, hb, hml, hown, hts, hin, hR, hA, hK, hy⟩ := hC
  obtain ⟨a1, -, a3, -, -, -⟩ := x_mnaok
  split at hs
  · rename_i k n r
    split at hs
    · rename_i hok
      obtain ⟨o1, o2, o3, o4, o5, o6, o7⟩ := hok
      cases hs
      intro ρ κ H locs als h1 h2 h3 h4 h5 h6 h7 h8
      obtain ⟨f1, f2, f3, f4⟩ := x_wf_ok o2
      simp only [x_mna, Bool.and_eq_true, beq_iff_eq] at o7
      obtain ⟨o7, rfl⟩ := o7
      have hcn : m_cn y = x_cn 2 := by rw [← o7]; rfl
      have hcl : (Cond.classLink (m_cn y) 9 ("[" ++ (FieldType.array .long).toString)).before args s = true := by
        rw [hcn]
        exact hts _ (x_gwI (x_w a1) rfl)
      obtain ⟨comp, cc0, kk0, q1, -, -, -, -⟩ := arrayOverA_spec (t := .long) hK.2.2.1
      have hmul : n.toNatClampNeg * k.toNatClampNeg ≤ n.toNatClampNeg * 20 := Nat.mul_le_mul_left _ o6
      generalize hN : n.toNatClampNeg = N at *
      generalize hM : k.toNatClampNeg = M at *
      refine va_mna (X := wl ρ κ w) (L := []) (f := fun _ => .inr (0, [])) (ty := .long) (cy := comp) (z := (M, .inr (.inl (fun _ => 0)))) hx hb hown hcl hK.2.2.1 (hts _ (x_gwI (x_w a3) rfl)) q1 (xK0 hK) (by simpa [va_pl] using h6.1) (by simpa [va_pl] using h6.2.1) h6.2.2.1 hA o3 o5 hN hM (by omega) (by show _ * 8 ≤ _; omega) (by omega) rfl rfl (by omega) (by omega) (fun c => by rw [vp_cell_l, ← arrV_new]; rfl) hd (fun q ra cA H1 hr1 hr2 hK1 hP hD hS => ?_)
      obtain ⟨cA2, kA2, comp2, c1, c2, c3⟩ := Cond.arrayClass_spec (show (Cond.arrayClass .long).before args s = true from hts _ (x_gwI (x_w a3) rfl))
      have ec : some comp = some cA2 := q1.symm.trans c1
      cases ec
      have tyR : ArrOfT s comp .long ∧ va_RA s comp .long := ⟨fun n z => ⟨(fun k h => by cases h), kA2, c2, comp2, c3⟩, c1⟩
      have tyO : ArrOfT s cA (.array .long) ∧ va_RA s cA (.array .long) := xK_last hK1
      obtain ⟨ρ', eρ⟩ : ∃ ρ' : Nat → Nat, ρ' = fun k => if k = w.1 then q else if w.1 < k ∧ k ≤ w.1 + N then ra (k - w.1 - 1) else ρ k := ⟨_, rfl⟩
      obtain ⟨κ', eκ⟩ : ∃ κ' : Nat → Nat, κ' = fun k => if k = w.1 then cA else if w.1 < k ∧ k ≤ w.1 + N then comp else κ k := ⟨_, rfl⟩
      have hρ : ∀ k, k < w.1 ∨ k = x_scr → ρ' k = ρ k := fun k hk => by
        have hk2 : k < w.1 ∨ k = 1000000 := hk
        have hm : N ≤ 20 := o4
        rw [eρ]
        show (if _ then _ else _) = _
        rw [if_neg (by omega), if_neg (by omega)]
      have hκ : ∀ k, k < w.1 → κ' k = κ k := fun k hk => by
        rw [eκ]
        show (if _ then _ else _) = _
        rw [if_neg (by omega), if_neg (by omega)]
      obtain ⟨w2, ew⟩ : ∃ w2 : xW, w2 = x_rows (x_new w (.inl (4, N, .inr (.inr (.inr (.inr (fun i => if i < N then some (w.1 + 1 + i) else none))))))) M N := ⟨_, rfl⟩
      rw [← ew] at kk
      have hz : w2.1 = w.1 + 1 + N ∧ w2.2.2 = w.2.2 := by rw [ew]; exact x_rows_1 M N
      have hat : ∀ j, w2.2.1 j = if w.1 + 1 ≤ j ∧ j < w.1 + 1 + N then .inl (1, M, .inr (.inl (fun _ => 0))) else if j = w.1 then .inl (4, N, .inr (.inr (.inr (.inr (fun i => if i < N then some (w.1 + 1 + i) else none))))) else w.2.1 j := fun j => by rw [ew]; exact x_rows_at M N j
      have hdead : x_dead w2 := by rw [ew]; exact x_rows_dead M N (x_new_dead h6.2.2.2.2)
      have hr0 : ρ' w.1 = q := by rw [eρ]; exact if_pos rfl
      have hrj : ∀ j, j < N → ρ' (w.1 + 1 + j) = ra j := fun j hj => by
        rw [eρ]
        show (if _ then _ else _) = _
        rw [if_neg (by omega), if_pos (by omega)]
        rw [show w.1 + 1 + j - w.1 - 1 = j by omega]
      have hk0 : κ' w.1 = cA := by rw [eκ]; exact if_pos rfl
      have hkj : ∀ j, j < N → κ' (w.1 + 1 + j) = comp := fun j hj => by
        rw [eκ]
        show (if _ then _ else _) = _
        rw [if_neg (by omega), if_pos (by omega)]
      have hNl : [((q, .inl (cA, N, .inr (.inr (.inr (.inr (fun i => if i < N then some (ra i) else none)))))) : Nat × va_E)] ++ va_pl ([] ++ (List.range N).map ra) (vr_up (fun _ => .inr (0, [])) ((List.range N).map ra) (.inl (comp, (M, .inr (.inl (fun _ => 0)))))) = (List.range (w2.1 - w.1)).map (fun j => (ρ' (w.1 + j), ce ρ' (κ' (w.1 + j)) (w2.2.1 (w.1 + j)))) := by
        rw [hz.1, show w.1 + 1 + N - w.1 = N + 1 by omega, List.range_succ_eq_map, List.map_cons, List.map_map]
        show _ :: _ = _ :: _
        congr 1
        · rw [Nat.add_zero, hr0, hk0, hat, if_neg (by omega), if_pos rfl]
          show (q, (Sum.inl (cA, N, _) : va_E)) = (q, Sum.inl (cA, N, _))
          congr 8
          funext j
          show _ = (if j < N then some (w.1 + 1 + j) else none).map ρ'
          by_cases hj : j < N
          · rw [if_pos hj, if_pos hj]
            show _ = some _
            rw [hrj j hj]
          · rw [if_neg hj, if_neg hj]
            rfl
        · unfold va_pl
          rw [List.nil_append, List.map_map]
          apply List.map_congr_left
          intro j hj
          have hj' := List.mem_range.mp hj
          show (ra j, vr_up _ _ _ (ra j)) = (ρ' (w.1 + (j + 1)), ce ρ' (κ' (w.1 + (j + 1))) (w2.2.1 (w.1 + (j + 1))))
          rw [vr_up_in (List.mem_map.mpr ⟨j, hj, rfl⟩), show w.1 + (j + 1) = w.1 + 1 + j by omega, hrj j hj', hkj j hj', hat, if_pos (by omega)]
          rfl
      have hrel : xRel ρ' κ' D A H0 H1 locs s w2 := by
        refine h6.grow f1 (by omega) (fun k hk => by rw [hat, if_neg (by omega), if_neg (by omega)]) hdead hρ hκ hNl.symm.symm (by rw [← List.append_assoc]; exact hP) (by rw [← List.append_assoc]; exact hD) hS ?_
        intro k t a hk1 hk2 hx
        rw [hat] at hx
        by_cases e : k = w.1
        · rw [if_neg (by omega), if_pos e] at hx
          cases hx
          rw [e, hk0]
          exact tyO
        · rw [if_pos (by omega)] at hx
          cases hx
          rw [show k = w.1 + 1 + (k - w.1 - 1) by omega, hkj _ (by omega)]
          exact tyR
      have := xGo_grow (ρ := ρ) (κ := κ) kk h1 h3 h4 h7 h8 o2 (by omega) (by omega) hρ hκ hrel hz.2 (cs := w.1 - b + 1 + N) (sl := 600 * (w.1 - b) + N + N * M) (by omega) (by omega)
      rw [hr0] at this
      exact this
    · cases hs
  · cases hs
end XN
