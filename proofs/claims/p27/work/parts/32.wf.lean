/-! What methods that make nothing keep: references that lead to cells -/
def okR (w : xW) : Prop := (∀ k, x_wfc w.1 (w.2.1 k) = true) ∧ x_dead w ∧ w.1 < x_scr
section WF
variable {n : Nat} {r ls fs : List Value} {w : xW}
theorem wv_i {x : Int32} (h : r.all (x_wfv n) = true) : (Value.int x :: r).all (x_wfv n) = true := by
  rw [List.all_cons, h]
  rfl
theorem wv_l {x : Int64} (h : r.all (x_wfv n) = true) : (Value.long x :: r).all (x_wfv n) = true := by
  rw [List.all_cons, h]
  rfl
theorem wv_t {v : Value} (h : (v :: r).all (x_wfv n) = true) : r.all (x_wfv n) = true := by
  rw [List.all_cons, Bool.and_eq_true] at h
  exact h.2
theorem wv_h {v : Value} (h : (v :: r).all (x_wfv n) = true) : x_wfv n v = true := by
  rw [List.all_cons, Bool.and_eq_true] at h
  exact h.1
theorem wv_c {v : Value} (h1 : x_wfv n v = true) (h : r.all (x_wfv n) = true) : (v :: r).all (x_wfv n) = true := by
  rw [List.all_cons, h1, h]
  rfl
theorem wv_g {k : Nat} {v : Value} (h : ls.all (x_wfv n) = true) (hk : ls[k]? = some v) : x_wfv n v = true := List.all_eq_true.mp h v (List.mem_of_getElem? hk)
theorem wv_s {k : Nat} {v : Value} (h : fs.all (x_wfv n) = true) (hv : x_wfv n v = true) : (fs.set k v).all (x_wfv n) = true := by
  rw [List.all_eq_true] at h ⊢
  intro x hx
  rcases List.mem_or_eq_of_mem_set hx with q | q
  · exact h x q
  · rw [q]
    exact hv
theorem wv_d {k : Nat} (h : r.all (x_wfv n) = true) : (r.drop k).all (x_wfv n) = true := List.all_eq_true.mpr (fun v hv => List.all_eq_true.mp h v (List.mem_of_mem_drop hv))
theorem wv_k {k : Nat} (h : r.all (x_wfv n) = true) : (r.take k).all (x_wfv n) = true := List.all_eq_true.mpr (fun v hv => List.all_eq_true.mp h v (List.mem_of_mem_take hv))
theorem wv_r (h : r.all (x_wfv n) = true) : r.reverse.all (x_wfv n) = true := List.all_eq_true.mpr (fun v hv => List.all_eq_true.mp h v (List.mem_reverse.mp hv))
theorem okR_f {a c k : Nat} {v : Value} (ok : okR w) (h : rd w a = .inr (c, fs)) (hk : fs[k]? = some v) : x_wfv w.1 v = true := by
  have h1 := ok.1 a
  have h2 : w.2.1 a = .inr (c, fs) := h
  rw [h2] at h1
  exact wv_g (n := w.1) h1 hk
theorem okR_wr {a : Nat} {c0 c : xC} (ok : okR w) (h : rd w a = c0) (hc : c0 ≠ .inr (99, [])) (hf : x_wfc w.1 c = true) : okR (wr w a c) := by
  refine ⟨fun k => ?_, x_dead_wr ok.2.1 h hc, ok.2.2⟩
  show x_wfc w.1 (if k = a then c else w.2.1 k) = true
  by_cases e : k = a
  · rw [if_pos e]
    exact hf
  · rw [if_neg e]
    exact ok.1 k
theorem okR_wf {a c ci k : Nat} {v : Value} (ok : okR w) (h : rd w a = .inr (c, fs)) (hk : k < fs.length) (hv : x_wfv w.1 v = true) : okR (wr w a (.inr (ci, fs.set k v))) := by
  have h1 := ok.1 a
  have h2 : w.2.1 a = .inr (c, fs) := h
  rw [h2] at h1
  exact okR_wr ok h (by intro q; cases q; exact absurd hk (Nat.not_lt_zero _)) (wv_s (n := w.1) h1 hv)
theorem okR_q {a t len i q : Nat} {f : Nat → Option Nat} (ok : okR w) (h : rd w a = .inl (t, len, .inr (.inr (.inr (.inr f))))) (hi : i < len) (hq : f i = some q) : x_wfv w.1 (.ref q) = true := by
  have h1 := ok.1 a
  have h2 : w.2.1 a = .inl (t, len, .inr (.inr (.inr (.inr f)))) := h
  rw [h2] at h1
  have h3 := List.all_eq_true.mp h1 i (List.mem_range.mpr hi)
  rw [hq] at h3
  have h4 : q < w.1 := of_decide_eq_true h3
  show (decide (q < w.1) || q == x_scr) = true
  rw [decide_eq_true h4]
  rfl
theorem okR_wq {a t len i x c : Nat} {f : Nat → Option Nat} {fx : List Value} (ok : okR w) (h : rd w a = .inl (t, len, .inr (.inr (.inr (.inr f))))) (hx : rd w x = .inr (0, fx)) (hv : x_wfv w.1 (.ref x) = true) : okR (wr w a (.inl (c, len, .inr (.inr (.inr (.inr (va_up f i (some x)))))))) := by
  refine okR_wr ok h (by intro q; cases q) ?_
  have h1 := ok.1 a
  have h2 : w.2.1 a = .inl (t, len, .inr (.inr (.inr (.inr f)))) := h
  rw [h2] at h1
  have hlt : x < w.1 := by
    rcases Nat.lt_or_ge x w.1 with q | q
    · exact q
    · have h5 := ok.2.1 x q
      have h6 : w.2.1 x = .inr (0, fx) := hx
      rw [h6] at h5
      cases h5
  refine List.all_eq_true.mpr (fun j hj => ?_)
  have h3 := List.all_eq_true.mp h1 j hj
  show (match (if j = i then some x else f j) with | none => true | some k => decide (k < w.1)) = true
  by_cases e : j = i
  · rw [if_pos e]
    exact decide_eq_true hlt
  · rw [if_neg e]
    exact h3
theorem wv_1 {v : Value} (h : x_wfv n v = true) {m : Nat} (hm : n ≤ m) : x_wfv m v = true := by
  cases v with
  | ref k =>
    have h2 : (decide (k < n) || k == x_scr) = true := h
    show (decide (k < m) || k == x_scr) = true
    rw [Bool.or_eq_true, decide_eq_true_eq] at h2 ⊢
    rcases h2 with q | q
    · exact Or.inl (Nat.lt_of_lt_of_le q hm)
    · exact Or.inr q
  | _ => rfl
theorem wv_le (h : r.all (x_wfv n) = true) {m : Nat} (hm : n ≤ m) : r.all (x_wfv m) = true := List.all_eq_true.mpr (fun v hv => wv_1 (List.all_eq_true.mp h v hv) hm)
theorem wv_up (h : r.all (x_wfv n) = true) : r.all (x_wfv (n + 1)) = true := wv_le h (Nat.le_succ n)
theorem wv_n (h : r.all (x_wfv (n + 1)) = true) : (Value.ref n :: r).all (x_wfv (n + 1)) = true := wv_c (by
  show (decide (n < n + 1) || n == x_scr) = true
  rw [decide_eq_true (Nat.lt_succ_self n)]
  rfl) h
theorem wc_up {c : xC} (h : x_wfc n c = true) : x_wfc (n + 1) c = true := by
  rcases c with ⟨t, len, a⟩ | ⟨ci, fs⟩
  · rcases a with f | f | f | f | f
    · rfl
    · rfl
    · rfl
    · rfl
    · simp only [x_wfc, List.all_eq_true] at h ⊢
      intro j hj
      have := h j hj
      cases e : f j with
      | none => rfl
      | some k =>
        rw [e] at this
        simp only [decide_eq_true_eq] at this ⊢
        omega
  · exact wv_up (n := n) h
theorem x_df_wf {ci : Nat} : x_wfc n (.inr (ci, x_df ci)) = true := by
  show (x_df ci).all (x_wfv n) = true
  unfold x_df
  rw [List.all_eq_true]
  intro v hv
  obtain ⟨q, -, rfl⟩ := List.mem_map.mp hv
  show x_wfv n (match q.1 with | 0 => .int 0 | 1 => .long 0 | _ => .null) = true
  split <;> rfl
theorem x_no_wf {t len : Nat} : x_wfc n (.inl (t, len, .inr (.inr (.inr (.inr (fun _ => none)))))) = true := List.all_eq_true.mpr (fun _ _ => rfl)
theorem okR_new {c : xC} (ok : okR w) (h1 : w.1 < 1000) (hc : x_wfc (w.1 + 1) c = true) : okR (x_new w c) := by
  refine ⟨fun k => ?_, x_new_dead ok.2.1, ?_⟩
  · show x_wfc (w.1 + 1) (if k = w.1 then c else w.2.1 k) = true
    by_cases e : k = w.1
    · rw [if_pos e]
      exact hc
    · rw [if_neg e]
      exact wc_up (ok.1 k)
  · show w.1 + 1 < 1000000
    omega
theorem okR_rows {m : Nat} : ∀ (k : Nat) {w : xW}, okR w → w.1 + k < 1000 → okR (x_rows w m k)
  | 0, _, ok, _ => ok
  | k + 1, w, ok, h => okR_new (okR_rows k ok (by omega)) (by rw [(x_rows_1 _ _).1]; omega) rfl
theorem okR_grid {ls st : List Value} (ok : okR w) (hl : ls.all (x_wfv w.1) = true) (hs : st.all (x_wfv w.1) = true) {z : Int32} {n' : Int32} (hw : x_wf w ls st = true) (hn : n'.toNatClampNeg ≤ 20) : okR (x_rows (x_new w (.inl (4, n'.toNatClampNeg, .inr (.inr (.inr (.inr (fun i => if i < n'.toNatClampNeg then some (w.1 + 1 + i) else none))))))) z.toNatClampNeg n'.toNatClampNeg) ∧ ls.all (x_wfv (x_rows (x_new w (.inl (4, n'.toNatClampNeg, .inr (.inr (.inr (.inr (fun i => if i < n'.toNatClampNeg then some (w.1 + 1 + i) else none))))))) z.toNatClampNeg n'.toNatClampNeg).1) = true ∧ (Value.ref w.1 :: st).all (x_wfv (x_rows (x_new w (.inl (4, n'.toNatClampNeg, .inr (.inr (.inr (.inr (fun i => if i < n'.toNatClampNeg then some (w.1 + 1 + i) else none))))))) z.toNatClampNeg n'.toNatClampNeg).1) = true := by
  obtain ⟨f1, f2, f3, f4⟩ := x_wf_ok hw
  generalize n'.toNatClampNeg = n at *
  generalize z.toNatClampNeg = mm
  have e1 : (x_rows (x_new w (.inl (4, n, .inr (.inr (.inr (.inr (fun i => if i < n then some (w.1 + 1 + i) else none))))))) mm n).1 = w.1 + 1 + n := (x_rows_1 mm n).1
  refine ⟨⟨fun k => ?_, x_rows_dead _ _ (x_new_dead ok.2.1), ?_⟩, ?_, ?_⟩
  · rw [e1, x_rows_at]
    split
    · rfl
    · show x_wfc (w.1 + 1 + n) (if k = w.1 then _ else w.2.1 k) = true
      by_cases e : k = w.1
      · rw [if_pos e]
        refine List.all_eq_true.mpr (fun j hj => ?_)
        have hj2 := List.mem_range.mp hj
        show (match (if j < n then some (w.1 + 1 + j) else none) with | none => true | some k => decide (k < w.1 + 1 + n)) = true
        rw [if_pos hj2]
        exact decide_eq_true (by omega)
      · rw [if_neg e]
        have up : ∀ m, x_wfc (w.1 + m) (w.2.1 k) = true := fun m => by
          induction m with
          | zero => exact ok.1 k
          | succ m ih => exact wc_up ih
        have := up (1 + n)
        rw [← Nat.add_assoc] at this
        exact this
  · rw [e1]
    show w.1 + 1 + n < 1000000
    omega
  · rw [e1]
    exact wv_le hl (by omega)
  · rw [e1]
    refine wv_c (wv_1 (n := w.1 + 1) ?_ (by omega)) (wv_le hs (by omega))
    show (decide (w.1 < w.1 + 1) || w.1 == x_scr) = true
    rw [decide_eq_true (Nat.lt_succ_self _)]
    rfl
end WF
set_option maxHeartbeats 2000000 in
theorem xs_wf {y b pc pc1 : Nat} {i : Instr} {ls st ls1 st1 : List Value} {w w1 : xW} (h : xs y b pc i ls st w = some (.inl (pc1, ls1, st1, w1))) (ok : okR w) (hl : ls.all (x_wfv w.1) = true) (hs : st.all (x_wfv w.1) = true) : okR w1 ∧ ls1.all (x_wfv w1.1) = true ∧ st1.all (x_wfv w1.1) = true := by
  cases i
  all_goals simp only [xs, x_iload, x_lload, x_aload, x_istore, x_lstore, x_astore, x_iinc, x_ii, x_ll, x_br, x_jgo, x_getf, x_putf, x_iald, x_cald, x_lald, x_aald, x_iast, x_cast, x_last, x_aast, x_alen, x_nobj, x_narr, x_nref, x_ngrid, x_invV, x_invS, x_invI, x_call, x_iret, x_lret, x_vret, x_ret, x_go, reduceCtorEq] at h
  all_goals (repeat' split at h)
  all_goals cases h
  all_goals first
    | exact ⟨ok, hl, hs⟩
    | exact ⟨ok, hl, wv_i hs⟩
    | exact ⟨ok, hl, wv_l hs⟩
    | exact ⟨ok, hl, wv_i (wv_t hs)⟩
    | exact ⟨ok, hl, wv_l (wv_t hs)⟩
    | exact ⟨ok, hl, wv_i (wv_t (wv_t hs))⟩
    | exact ⟨ok, hl, wv_l (wv_t (wv_t hs))⟩
    | exact ⟨ok, hl, wv_t hs⟩
    | exact ⟨ok, hl, wv_t (wv_t hs)⟩
    | exact ⟨ok, hl, wv_c (wv_h hs) hs⟩
    | exact ⟨ok, hl, wv_c (wv_h hs) (wv_c (wv_h (wv_t hs)) hs)⟩
    | exact ⟨ok, hl, wv_c (wv_g hl (by assumption)) hs⟩
    | exact ⟨ok, wv_s hl rfl, wv_t hs⟩
    | exact ⟨ok, wv_s (wv_s hl rfl) rfl, wv_t hs⟩
    | exact ⟨ok, wv_s hl (wv_h hs), wv_t hs⟩
    | exact ⟨ok, wv_s hl rfl, hs⟩
    | exact ⟨ok, hl, wv_c (okR_f ok (by assumption) (by assumption)) (wv_t hs)⟩
    | (rename_i hrd hc _ _ _ _ _; exact ⟨okR_wf ok hrd hc.2 (wv_h hs), hl, wv_t (wv_t hs)⟩)
    | exact ⟨okR_wr ok (by assumption) (by intro q; cases q) rfl, hl, wv_t (wv_t (wv_t hs))⟩
    | (rename_i hh; exact ⟨okR_new ok (x_wf_ok hh.2).2.2.2 x_df_wf, wv_up hl, wv_n (wv_up hs)⟩)
    | (rename_i hh; exact ⟨okR_new ok (x_wf_ok hh.2.1).2.2.2 rfl, wv_up hl, wv_n (wv_up (wv_t hs))⟩)
    | (rename_i hh _; exact ⟨okR_new ok (x_wf_ok hh.2.1).2.2.2 rfl, wv_up hl, wv_n (wv_up (wv_t hs))⟩)
    | (rename_i hh; exact ⟨okR_new ok (x_wf_ok hh.2.1).2.2.2 x_no_wf, wv_up hl, wv_n (wv_up (wv_t hs))⟩)
    | (rename_i hrd hc _ _ hq; exact ⟨ok, hl, wv_c (okR_q ok hrd hc.2.2 hq) (wv_t (wv_t hs))⟩)
    | (rename_i hrd _ _ _ hx; exact ⟨okR_wq ok hrd hx (wv_h hs), hl, wv_t (wv_t (wv_t hs))⟩)
    | (rename_i hh; exact okR_grid ok hl (wv_t (wv_t hs)) hh.2.1 hh.2.2.2.1)
set_option maxHeartbeats 2000000 in
theorem xs_cwf {y b pc t : Nat} {i : Instr} {ls st as r : List Value} {w : xW} (h : xs y b pc i ls st w = some (.inr (.inr (t, as, r)))) (hs : st.all (x_wfv w.1) = true) : as.all (x_wfv w.1) = true ∧ r.all (x_wfv w.1) = true := by
  cases i
  all_goals simp only [xs, x_iload, x_lload, x_aload, x_istore, x_lstore, x_astore, x_iinc, x_ii, x_ll, x_br, x_jgo, x_getf, x_putf, x_iald, x_cald, x_lald, x_aald, x_iast, x_cast, x_last, x_aast, x_alen, x_nobj, x_narr, x_nref, x_ngrid, x_invV, x_invS, x_invI, x_call, x_iret, x_lret, x_vret, x_ret, x_go, reduceCtorEq] at h
  all_goals (repeat' split at h)
  all_goals cases h
  all_goals first
    | exact ⟨wv_r (wv_k hs), wv_d hs⟩
    | (rename_i hst _; have h2 := wv_d (k := m_np t) hs; rw [hst] at h2; exact ⟨wv_c (wv_h h2) (wv_r (wv_k hs)), wv_t h2⟩)
    | skip
theorem wv_a {n : Nat} : ∀ (as : List Value), as.all (x_wfv n) = true → (x_args as).all (x_wfv n) = true
  | [], _ => rfl
  | v :: vs, h => by
    have ih := wv_a vs (wv_t h)
    have hv := wv_h h
    cases v with
    | long x => exact wv_l (wv_c rfl ih)
    | double x => exact wv_c rfl (wv_c rfl ih)
    | _ => exact wv_c hv ih
theorem wv_e {n k : Nat} {as : List Value} (h : as.all (x_wfv n) = true) : (x_ent as k).all (x_wfv n) = true := by
  unfold x_ent
  rw [List.all_append, wv_a as h, Bool.true_and, List.all_eq_true]
  intro v hv
  rw [(List.mem_replicate.mp hv).2]
  rfl
theorem RunP_wf : ∀ (n : Nat) {y b pc : Nat} {ls st : List Value} {w w2 : xW} {o : Option Value}, RunP n y b pc ls st w o w2 → okR w → ls.all (x_wfv w.1) = true → st.all (x_wfv w.1) = true → okR w2 ∧ ∀ v, o = some v → x_wfv w2.1 v = true
  | 0, _, _, _, _, _, _, _, _, h, _, _, _ => h.elim
  | n + 1, y, b, pc, ls, st, w, w2, o, h, ok, hl, hs => by
    obtain ⟨i, len, hd, hln, hx⟩ := h
    cases e : xs y b pc i ls st w with
    | none => rw [e] at hx; exact hx.elim
    | some z =>
      rw [e] at hx
      rcases z with ⟨pc1, ls1, st1, w1⟩ | r | ⟨t, as, r⟩
      · obtain ⟨k1, k2, k3⟩ := xs_wf e ok hl hs
        exact RunP_wf n hx k1 k2 k3
      · obtain ⟨rfl, rfl⟩ := hx
        refine ⟨ok, fun v hv => ?_⟩
        obtain ⟨-, q⟩ := xs_ret e
        rcases q with ⟨-, -, q, -⟩ | ⟨u, ty, -, -, q, -⟩ | ⟨u, -, -, q, -⟩
        · rw [q] at hv
          cases hv
        · rw [q] at hv
          cases hv
          rfl
        · rw [q] at hv
          cases hv
          rfl
      · obtain ⟨o1, w1, h1, h2⟩ := hx
        obtain ⟨a1, a2⟩ := xs_cwf e hs
        obtain ⟨k1, k2⟩ := RunP_wf n h1 ok (wv_e a1) rfl
        have e1 : w.1 ≤ w1.1 := (RunP_keep n h1 (Nat.le_refl _)).2.1
        refine RunP_wf n h2 k1 (wv_le hl e1) ?_
        have a3 : r.all (x_wfv w1.1) = true := wv_le a2 e1
        cases o1 with
        | none => exact a3
        | some v => exact wv_c (k2 v rfl) a3
/-- a run keeps the references -/
theorem Wp_cut {y b : Nat} {ls st : List Value} {pc : Nat} {w : xW} {Q : Option Value → xW → Prop} (ok : okR w) (hl : ls.all (x_wfv w.1) = true) (hs : st.all (x_wfv w.1) = true) (h : Wp y b pc ls st w (fun o w2 => okR w2 → Q o w2)) : Wp y b pc ls st w Q := by
  obtain ⟨n, o, w2, h1, h2⟩ := h
  exact ⟨n, o, w2, h1, h2 (RunP_wf n h1 ok hl hs).1⟩
