/-! What a step keeps -/
theorem xs_keep0 {y b pc pc1 : Nat} {i : Instr} {ls st ls1 st1 : List Value} {w w1 : xW} (h : xs y b pc i ls st w = some (.inl (pc1, ls1, st1, w1))) : ls1.length = ls.length ∧ w1.2.2 = w.2.2 ∧ w.1 ≤ w1.1 ∧ (m_mc y = 0 → w1.1 = w.1) := by
  cases i
  all_goals simp only [xs, x_iload, x_lload, x_aload, x_istore, x_lstore, x_astore, x_iinc, x_ii, x_ll, x_br, x_jgo, x_getf, x_putf, x_iald, x_cald, x_lald, x_aald, x_iast, x_cast, x_last, x_aast, x_alen, x_nobj, x_narr, x_nref, x_ngrid, x_invV, x_invS, x_invI, x_call, x_iret, x_lret, x_vret, x_ret, x_go, reduceCtorEq] at h
  all_goals (repeat' split at h)
  all_goals cases h
  all_goals first
    | exact ⟨rfl, rfl, Nat.le_refl _, fun _ => rfl⟩
    | exact ⟨by simp only [List.length_set], rfl, Nat.le_refl _, fun _ => rfl⟩
    | (rename_i hok _; exact ⟨rfl, rfl, Nat.le_succ _, fun z => absurd hok.1 (by omega)⟩)
    | (rename_i hok; exact ⟨rfl, rfl, Nat.le_succ _, fun z => absurd hok.1 (by omega)⟩)
    | (rename_i hok; exact ⟨rfl, (x_rows_1 _ _).2, by rw [(x_rows_1 _ _).1]; show w.1 ≤ w.1 + 1 + _; omega, fun z => absurd hok.1 (by omega)⟩)
theorem x_dead_wr {w : xW} {a : Nat} {c0 c : xC} (h : x_dead w) (hrd : rd w a = c0) (hc : c0 ≠ .inr (99, [])) : x_dead (wr w a c) := fun k hk => by
  have hk' : w.1 ≤ k := hk
  show (if k = a then c else w.2.1 k) = _
  by_cases e : k = a
  · subst e
    exact absurd (hrd.symm.trans (h k hk')) hc
  · rw [if_neg e]
    exact h k hk'
theorem xs_keep {y b pc pc1 : Nat} {i : Instr} {ls st ls1 st1 : List Value} {w w1 : xW} (h : xs y b pc i ls st w = some (.inl (pc1, ls1, st1, w1))) : ls1.length = ls.length ∧ w1.2.2 = w.2.2 ∧ w.1 ≤ w1.1 ∧ (m_mc y = 0 → w1.1 = w.1) ∧ (x_dead w → x_dead w1) := by
  obtain ⟨h1, h2, h3, h4⟩ := xs_keep0 h
  refine ⟨h1, h2, h3, h4, fun z => ?_⟩
  clear h1 h2 h3 h4
  cases i
  all_goals simp only [xs, x_iload, x_lload, x_aload, x_istore, x_lstore, x_astore, x_iinc, x_ii, x_ll, x_br, x_jgo, x_getf, x_putf, x_iald, x_cald, x_lald, x_aald, x_iast, x_cast, x_last, x_aast, x_alen, x_nobj, x_narr, x_nref, x_ngrid, x_invV, x_invS, x_invI, x_call, x_iret, x_lret, x_vret, x_ret, x_go, reduceCtorEq] at h
  all_goals (repeat' split at h)
  all_goals cases h
  all_goals first
    | exact z
    | exact x_new_dead z
    | exact x_rows_dead _ _ (x_new_dead z)
    | (refine x_dead_wr z (by assumption) ?_; intro q; cases q; done)
    | (refine x_dead_wr z (by assumption) ?_; intro q; cases q; rename_i hci; exact absurd hci.2 (Nat.not_lt_zero _))
theorem xs_call {y b pc t : Nat} {i : Instr} {ls st as r : List Value} {w : xW} (h : xs y b pc i ls st w = some (.inr (.inr (t, as, r)))) : m_dp t < m_dp y ∧ (t < m_law ∧ (m_sc t = true → m_sc y = true)) ∧ (r.map Value.category).sum ≤ 8 ∧ xlen_args as ≤ m_ml t ∧ (m_mc t = 0 ∨ (w.1 - b + m_mc t ≤ m_mc y ∧ x_wf w ls r = true ∧ as.all (x_wfv w.1) = true)) := by
  cases i
  all_goals simp only [xs, x_iload, x_lload, x_aload, x_istore, x_lstore, x_astore, x_iinc, x_ii, x_ll, x_br, x_jgo, x_getf, x_putf, x_iald, x_cald, x_lald, x_aald, x_iast, x_cast, x_last, x_aast, x_alen, x_nobj, x_narr, x_nref, x_ngrid, x_invV, x_invS, x_invI, x_call, x_iret, x_lret, x_vret, x_ret, x_go, reduceCtorEq] at h
  all_goals (repeat' split at h)
  all_goals cases h
  all_goals (rename_i hh; exact ⟨hh.1, hh.2.1, hh.2.2.2.1, hh.2.2.2.2.1, hh.2.2.2.2.2⟩)
theorem xs_ret {y b pc : Nat} {i : Instr} {ls st : List Value} {w : xW} {o : Option Value} (h : xs y b pc i ls st w = some (.inr (.inl o))) : (m_mc y = 0 ∨ y = m_law ∨ w.1 = b + m_mc y) ∧ ((i = .return_ ∧ st = [] ∧ o = none ∧ m_rt y = none) ∨ (∃ v ty, i = .ireturn ∧ st = [.int v] ∧ o = some (.int v) ∧ m_rt y = some ty ∧ narrow ty (.int v) = .int v) ∨ (∃ v, i = .lreturn ∧ st = [.long v] ∧ o = some (.long v) ∧ m_rt y = some .long)) := by
  cases i
  all_goals simp only [xs, x_iload, x_lload, x_aload, x_istore, x_lstore, x_astore, x_iinc, x_ii, x_ll, x_br, x_jgo, x_getf, x_putf, x_iald, x_cald, x_lald, x_aald, x_iast, x_cast, x_last, x_aast, x_alen, x_nobj, x_narr, x_nref, x_ngrid, x_invV, x_invS, x_invI, x_call, x_iret, x_lret, x_vret, x_ret, x_go, reduceCtorEq] at h
  all_goals (repeat' split at h)
  all_goals cases h
  · exact ⟨by assumption, Or.inr (Or.inl ⟨_, .int, rfl, rfl, rfl, by assumption, rfl⟩)⟩
  · rename_i hr hv hm
    refine ⟨hm, Or.inr (Or.inl ⟨_, _, rfl, rfl, rfl, hr, ?_⟩)⟩
    rcases hv with rfl | rfl <;> rfl
  · rename_i hr hv hm
    refine ⟨hm, Or.inr (Or.inl ⟨_, _, rfl, rfl, rfl, hr, ?_⟩)⟩
    show Value.int _ = _
    exact congrArg Value.int hv
  · rename_i hr hm
    exact ⟨hm, Or.inr (Or.inr ⟨_, rfl, rfl, rfl, hr⟩)⟩
  · rename_i hr hm
    exact ⟨hm, Or.inl ⟨rfl, rfl, rfl, hr⟩⟩
theorem x_ent_len {as : List Value} {n : Nat} (h : xlen_args as ≤ n) : (x_ent as n).length = n := by
  unfold x_ent
  rw [List.length_append, List.length_replicate, x_args_len]
  omega
theorem RunP_keep : ∀ (n : Nat) {y b pc : Nat} {ls st : List Value} {w w2 : xW} {o : Option Value}, RunP n y b pc ls st w o w2 → b ≤ w.1 → w2.2.2 = w.2.2 ∧ w.1 ≤ w2.1 ∧ (m_mc y = 0 → w2.1 = w.1) ∧ (m_mc y = 0 ∨ y = m_law ∨ w2.1 = b + m_mc y) ∧ (x_dead w → x_dead w2)
  | 0, _, _, _, _, _, _, _, _, h, _ => h.elim
  | n + 1, y, b, pc, ls, st, w, w2, o, h, hb => by
    obtain ⟨i, len, hd, hl, hs⟩ := h
    cases hx : xs y b pc i ls st w with
    | none => rw [hx] at hs; exact hs.elim
    | some z =>
      rw [hx] at hs
      rcases z with ⟨pc1, ls1, st1, w1⟩ | r | ⟨t, as, r⟩
      · obtain ⟨-, k2, k3, k4, k5⟩ := xs_keep hx
        obtain ⟨g1, g2, g3, g4, g5⟩ := RunP_keep n hs (by omega)
        exact ⟨g1.trans k2, by omega, fun z => (g3 z).trans (k4 z), g4, fun z => g5 (k5 z)⟩
      · obtain ⟨rfl, rfl⟩ := hs
        exact ⟨rfl, Nat.le_refl _, fun _ => rfl, (xs_ret hx).1, fun z => z⟩
      · obtain ⟨o1, w1, h1, h2⟩ := hs
        obtain ⟨-, -, -, -, c5⟩ := xs_call hx
        obtain ⟨k1, k2, k3, k4, k5⟩ := RunP_keep n h1 (Nat.le_refl _)
        obtain ⟨g1, g2, g3, g4, g5⟩ := RunP_keep n h2 (by omega)
        refine ⟨g1.trans k1, by omega, fun z => ?_, g4, fun z => g5 (k5 z)⟩
        have : m_mc t = 0 := by rcases c5 with c5 | c5 <;> omega
        rw [g3 z, k3 this]
/-! A method's contract, out of a run of the small machine -/
def x_ws (t : Nat) : List Cond := Cond.code (m_nm t) (m_bc t) (m_ml t) (m_rt t) :: x_gw
def xQ (ρ κ : Nat → Nat) (D : va_G) (A1 : Nat → Prop) (t : Nat) (w w1 : xW) (o1 : Option Value) : Array Value → State → Outcome → State → Prop := fun _ st oc u => (∃ ρ' κ' : Nat → Nat, (m_mc t = 0 → ρ' = ρ ∧ κ' = κ) ∧ (∀ k, k < w.1 ∨ k = x_scr → ρ' k = ρ k) ∧ (∀ k, k < w.1 → κ' k = κ k) ∧ oc = .returned (o1.map (cv ρ')) ∧ va_P D vwCl (wl ρ' κ' w1) u.heap ∧ va_D A1 (wl ρ' κ' w1) ∧ xTy κ' w1 u) ∧ va_F A1 st u
def xPre (t : Nat) (ρ κ : Nat → Nat) (D : va_G) (sz : Nat) (w : xW) (as : List Value) : Array Value → State → Prop := va_Pc (as.map (cv ρ)) (fun U => U.heap.size = sz ∧ va_P D vwCl (wl ρ κ w) U.heap ∧ xKn D U ∧ xTy κ w U ∧ va_D (fun _ => True) (wl ρ κ w) ∧ xSc t ρ (va_A (wl ρ κ w) sz) U.heap U w)
def xMet (l : Launch) (t : Nat) (as : List Value) (w w1 : xW) (o1 : Option Value) : Prop := ∀ (ρ κ : Nat → Nat) (D : va_G) (sz : Nat), Met l (m_nm t) (x_ws t) (m_rm t) (xPre t ρ κ D sz w as) (xQ ρ κ D (va_A (wl ρ κ w) sz) t w w1 o1) (m_mc t) (600 * m_mc t) (va_A (wl ρ κ w) sz)
theorem xPre_blind {t : Nat} {ρ κ : Nat → Nat} {D : va_G} {sz : Nat} {w : xW} {as : List Value} : FrameBlind (xPre t ρ κ D sz w as) := fun a U g mk q => by
  obtain ⟨q0, q1, qP, qK, qT, qD, qS⟩ := q
  exact ⟨q0, q1, qP, qK.same (u := U) (U := U.calling g mk a) rfl, qT.moved (u := U) (U := U.calling g mk a) (Vm.Alike.refl U.vm), qD, fun hm => ⟨(qS hm).1, (qS hm).2.1, (qS hm).2.2.moved (u := U) (U := U.calling g mk a) (Vm.Alike.refl U.vm)⟩⟩
theorem x_good_in {ws : List Cond} (h : ∀ w ∈ ws, w ∈ x_gw) : GoodIn x_gw ws := fun w hw => ⟨h w hw, good_of_word (List.mem_filter.mp (h w hw)).2⟩
theorem x_ws_in {t : Nat} (ht : t < m_law) : ∀ w ∈ x_ws t, w ∈ x_gw := fun w hw => (List.mem_cons.mp hw).elim (fun e => by rw [e]; exact x_gwI (m_code t ht) rfl) (fun h => h)
theorem x_nest : ∀ {c i t : Nat}, (c, i, 6, t) ∈ x_mls → False := by
  intro c i t h
  have h2 : ∀ q ∈ x_mls, q.2.2.1 = 6 → False := by decide +kernel
  exact h2 _ h rfl
/-- the script, handed on to a method that has it too -/
theorem xSc.call {y t : Nat} {ρ κ : Nat → Nat} {D : va_G} {A : Nat → Prop} {H0 H : Heap} {locs : List Loc} {s U : State} {w : xW} (hst : m_sc t = true → m_sc y = true) (h7 : xSc y ρ A H0 s w) (h6 : xRel ρ κ D A H0 H locs s w) (hU : U.heap = H) (hal : s.vm.Alike U.vm) : xSc t ρ (va_A (wl ρ κ w) H.size) U.heap U w := fun hm => by
  obtain ⟨s1, s2, s3⟩ := h7 (hst hm)
  have hle : H0.size ≤ H.size := h6.2.2.1.1
  refine ⟨by rw [hU]; exact Nat.lt_of_lt_of_le s1 hle, fun q => ?_, ?_⟩
  · rcases q with ⟨k, en, hq⟩ | hq
    · exact s2 (h6.2.1.2 k (_, en) hq)
    · exact absurd hq (Nat.not_le.mpr (Nat.lt_of_lt_of_le s1 hle))
  · rw [hU]
    exact (s3.kept (h6.2.2.1.2.1 _ s1 s2)).moved hal
section XR
variable {p : Program} {l : Launch} {e : Env} {R : Room} {s : State} {m : MethodId} {args : Array Value} {below : List Frame} {meth : Method} {c : Code} {Qf : State → Prop} {D : va_G} {A : Nat → Prop} {H0 : Heap} {ρ0 κ0 : Nat → Nat} {y b pc pc1 : Nat} {ls st ls1 st1 : List Value} {w w1 : xW} {i : Instr}
/-- behind a call -/
theorem xGo_after {t : Nat} {o1 : Option Value} {r : List Value} (hA : ∀ q, H0.size ≤ q → A q) (kk : xGo p l e R s m args below meth c Qf D A H0 ρ0 κ0 y b (pc + 3) ls (rl o1 r) w1) (ht : t ≠ m_law) (hmc : m_mc t = 0 ∨ (w.1 - b + m_mc t ≤ m_mc y ∧ x_wf w ls r = true)) (hgrow : w1.1 = w.1 + m_mc t) (hscr : w1.2.2 = w.2.2) (hdead : x_dead w1) {ρ κ : Nat → Nat} {H : Heap} {locs : List Loc} {als : Array Slot} {st0 : List Value} (h1 : b ≤ w.1) (h2 : m_mc y = 0 → w.1 = b ∧ ρ = ρ0 ∧ κ = κ0) (h3 : ∀ k, k < b ∨ k = x_scr → ρ k = ρ0 k) (h4 : ∀ k, k < b → κ k = κ0 k) (h5 : w.1 - b ≤ m_mc y) (h6 : xRel ρ κ D A H0 H locs s w) (h7 : xSc y ρ A H0 s w) (h8 : lv_has als (m_ml y) (xl ρ ls)) {av : Array Value} (hr : va_Run p l e R s m args below meth c H locs (w.1 - b) (600 * (w.1 - b)) (m_mc t) (600 * m_mc t) (F0 m pc als st0) (r.map (cv ρ)) (xQ ρ κ D (va_A (wl ρ κ w) H.size) t w w1 o1 av) (va_A (wl ρ κ w) H.size)) : W p l e R s m args below meth c H locs (w.1 - b) (600 * (w.1 - b)) Qf (F0 m pc als st0) := by
  intro T hT X
  obtain ⟨v, st₀, u, T', L, g0, X', hL, e1, e2, ⟨⟨ρ', κ', q1, q2, q3, hv, qP, qD, qT⟩, hz, hk⟩, stp⟩ := hr T hT X
  rw [g0] at hz hk
  have hv' : v = o1.map (cv ρ') := Outcome.returned.inj hv
  have hAA : ∀ q, va_A (wl ρ κ w) H.size q → A q := fun q hq => by
    rcases hq with ⟨k, en, hq⟩ | hq
    · exact h6.2.1.2 k (q, en) hq
    · exact hA q (Nat.le_trans h6.2.2.1.1 hq)
  have hS : va_S A H0 T'.heap (locs ++ L) := ⟨Nat.le_trans h6.2.2.1.1 (by rw [e1]; exact hz), fun q a1 a2 => by
      rw [e1, hk q (Nat.lt_of_lt_of_le a1 h6.2.2.1.1) (fun z => a2 (hAA q z))]
      exact h6.2.2.1.2.1 q a1 a2, fun q hq => by
      rcases List.mem_append.mp hq with h | h
      · exact h6.2.2.1.2.2 q h
      · exact hAA _ (hL q h)⟩
  have hal : u.vm.Alike s.vm := by rw [← e2]; exact X'.warmed.alike.symm
  have hrel : xRel ρ' κ' D A H0 T'.heap (locs ++ L) s w1 := ⟨by rw [e1]; exact qP, qD.weaken (fun _ q _ h => hAA q.1 h), hS, qT.moved hal, hdead⟩
  have hst : v.toList ++ r.map (cv ρ) = (rl o1 r).map (cv ρ') := by
    have hr' : r.map (cv ρ) = r.map (cv ρ') := by
      rcases hmc with h | h
      · rw [(q1 h).1]
      · exact (cvs_same (x_wf_ok h.2).2.2.1 q2).symm
    rw [hv', hr']
    cases o1 <;> rfl
  have hls : lv_has als (m_ml y) (xl ρ' ls) := by
    rcases hmc with h | h
    · rw [(q1 h).1]
      exact h8
    · exact xl_same (x_wf_ok h.2).2.1 q2 h8
  have K := kk ρ' κ' T'.heap (locs ++ L) als (by omega) (fun z => by
      obtain ⟨z1, z2, z3⟩ := h2 z
      have hm : m_mc t = 0 := by rcases hmc with h | h <;> omega
      exact ⟨by omega, (q1 hm).1.trans z2, (q1 hm).2.trans z3⟩) (fun k hk => (q2 k (hk.elim (fun z => Or.inl (by omega)) Or.inr)).trans (h3 k hk)) (fun k hk => (q3 k (by omega)).trans (h4 k hk)) (by rcases hmc with h | h <;> omega) hrel (fun hy => by
      obtain ⟨s1, s2, s3⟩ := h7 hy
      rw [q2 _ (Or.inr rfl), hscr]
      exact ⟨s1, s2, s3⟩) hls
  have X2 : Stand p l e R s m args below meth c T' (locs ++ L) (w1.1 - b) (600 * (w1.1 - b)) := by
    have a1 : w.1 - b + m_mc t = w1.1 - b := by omega
    have a2 : 600 * (w.1 - b) + 600 * m_mc t = 600 * (w1.1 - b) := by omega
    have X3 := X'
    rw [a1, a2] at X3
    exact X3
  obtain ⟨t2, b1, b2⟩ := K T' rfl X2
  refine ⟨t2, stp t2 ?_, b2⟩
  show Steps p.tables e below (T'.setTop (F0 m (pc + 3) als (v.toList ++ r.map (cv ρ)))) t2
  rw [hst]
  exact b1
theorem m_mc_rm {t : Nat} (ht : t ≠ m_law) : (m_rm t).cells = m_mc t ∧ (m_rm t).slots = 600 * m_mc t ∧ (m_rm t).frames = m_dp t ∧ (m_rm t).locals = 36 * m_dp t := by
  unfold m_rm
  rw [if_neg ht]
  exact ⟨rfl, rfl, rfl, rfl⟩
theorem x_take {n : Nat} {a : Value} {r : List Value} (h : st.drop n = a :: r) : st = st.take n ++ a :: r := by
  rw [← h, List.take_append_drop]
/-- one step that calls -/
theorem xs_inv (hC : xCx p R s m args meth c D A H0 y) (hml : ls.length = m_ml y) {len t : Nat} {as r : List Value} {o1 : Option Value} (hd : decode (m_bc y) pc = .ok (i, len)) (hlen : len = xlen i ∨ x_isw i) (hs : xs y b pc i ls st w = some (.inr (.inr (t, as, r)))) (hM : xMet l t as w w1 o1) (hgrow : w1.1 = w.1 + m_mc t) (hscr : w1.2.2 = w.2.2) (hdead : x_dead w1) (kk : xGo p l e R s m args below meth c Qf D A H0 ρ0 κ0 y b (pc + 3) ls (rl o1 r) w1) : xGo p l e R s m args below meth c Qf D A H0 ρ0 κ0 y b pc ls st w := by
  obtain ⟨c1, ⟨c2, c2s⟩, c3, c4, c5⟩ := xs_call hs
  have htl : t ≠ m_law := by omega
  obtain ⟨r1, r2, r3, r4⟩ := m_room hC
  obtain ⟨z1, z2, z3, z4⟩ := m_mc_rm htl
  obtain ⟨hx, hb, hml2, hown, hts, hin, hR, hA, hK, hy⟩ := hC
  obtain ⟨f1, f2, f3, f4, f5⟩ := m_facts t c2
  have hini := hts _ (x_gwI (x_w (m_ini t c2)) rfl)
  have hRR : (m_rm t).frames + 1 ≤ R.frames ∧ 8 + (m_ml t + 11) + (m_rm t).locals ≤ R.locals := by rw [z3, z4]; omega
  have hfit : w.1 - b ≤ m_mc y → (w.1 - b + m_mc t ≤ R.cells ∧ 600 * (w.1 - b) + 600 * m_mc t ≤ R.slots) := fun h5 => by rcases c5 with h | h <;> omega
  have hmc : m_mc t = 0 ∨ (w.1 - b + m_mc t ≤ m_mc y ∧ x_wf w ls r = true) := c5.elim Or.inl (fun h => Or.inr ⟨h.1, h.2.1⟩)
  cases i with
  | invokevirtual idx =>
    have hl := hlen.resolve_right (fun q => q)
    subst hl
    simp only [xs, x_invV] at hs
    split at hs
    · rename_i t' hk
      split at hs
      · rename_i a r' hst
        split at hs
        · rename_i cc fs hrd
          split at hs
          · rename_i hcc
            obtain ⟨q1, q2, q3⟩ := hcc
            simp only [x_call] at hs
            split at hs
            · cases hs
              obtain ⟨pz, w1', w2', w3', -⟩ := x_ml_ok hk
              intro ρ κ H locs als h1 h2 h3 h4 h5 h6 h7 h8
              obtain ⟨hlt, hw⟩ := h6.at hrd (by intro q; cases q; rw [← q1] at q2; omega)
              have hG : GoodIn x_gw (wsV (m_cn y) idx (m_cn t) (m_nm t) (x_ws t)) := x_good_in (fun wd hwd => by
                rcases List.mem_append.mp hwd with h | h
                · rcases List.mem_cons.mp h with h | h
                  · rw [h]; exact x_gwI (x_w w1') rfl
                  · rcases List.mem_cons.mp h with h | h
                    · rw [h]; exact x_gwI (x_w w2') rfl
                    · rcases List.mem_cons.mp h with h | h
                      · rw [h]; exact x_gwI (x_w w3') rfl
                      · rw [List.mem_singleton.mp h]; exact x_gwI (x_w (m_ini t c2)) rfl
                · exact x_ws_in c2 wd h)
              have hrun := va_runV (e := e) (below := below) (meth := meth) (locs := locs) (g := F0 m pc als (st.map (cv ρ))) (b := ρ a) (As := ((st.take (m_np t)).reverse).map (cv ρ)) (rest := r.map (cv ρ)) ⟨hx, hb, hml2, hown, hts⟩ (hM ρ κ D H.size) (cwV (m_np t) hts hG rfl z1 z2 ⟨rfl, f2, f3, f4⟩ hRR) ⟨xPre_blind, by
                  have := va_recv (xK0 hK) h6.1 (x_cls _ (by rw [q1]; exact q2)) hw
                  rw [q1] at this
                  exact this, fun U hU hW => ⟨rfl, by rw [hU], by rw [hU]; exact h6.1, hK.warm hW, h6.2.2.2.1.moved hW.alike, h6.2.1.weaken (fun _ _ _ _ => trivial), h7.call c2s h6 hU hW.alike⟩⟩ rfl (by rw [List.length_map, List.length_reverse]; exact q3) h8.1 (by
                  show st.map (cv ρ) = _
                  conv => lhs; rw [x_take hst]
                  rw [List.map_append, List.map_reverse, List.reverse_reverse]
                  rfl) (lv_room (lv_cats c3)) hd (hfit h5)
              exact xGo_after hA kk htl hmc hgrow hscr hdead h1 h2 h3 h4 h5 h6 h7 h8 hrun
            · cases hs
          · cases hs
        · cases hs
      · cases hs
    · cases hs
  | invokestatic idx =>
    have hl := hlen.resolve_right (fun q => q)
    subst hl
    simp only [xs, x_invS, x_go] at hs
    split at hs
    · rename_i t' hk
      split at hs
      · rename_i q3
        simp only [x_call] at hs
        split at hs
        · cases hs
          obtain ⟨pz, w1', w2', -⟩ := x_ml_ok hk
          intro ρ κ H locs als h1 h2 h3 h4 h5 h6 h7 h8
          have hrun := va_runS (e := e) (below := below) (meth := meth) (locs := locs) (g := F0 m pc als (st.map (cv ρ))) (As := ((st.take (m_np t)).reverse).map (cv ρ)) (rest := (st.drop (m_np t)).map (cv ρ)) ⟨hx, hb, hml2, hown, hts⟩ (hM ρ κ D H.size) ⟨callB_of (own := m_cn y) (m_np t) hts (x_good_in (x_ws_in c2)) rfl z1 z2 hini (hts _ (x_gwI (x_w w1') rfl)) ⟨f2, f3, f4⟩ hRR, hts _ (x_gwI (x_w w2') rfl)⟩ ⟨xPre_blind, fun U hU hW => ⟨rfl, by rw [hU], by rw [hU]; exact h6.1, hK.warm hW, h6.2.2.2.1.moved hW.alike, h6.2.1.weaken (fun _ _ _ _ => trivial), h7.call c2s h6 hU hW.alike⟩⟩ rfl (by rw [List.length_map, List.length_reverse]; exact q3) h8.1 (by
              show st.map (cv ρ) = _
              rw [List.map_reverse, List.reverse_reverse, ← List.map_append, List.take_append_drop]) (lv_room (lv_cats c3)) hd (hfit h5)
          exact xGo_after hA kk htl hmc hgrow hscr hdead h1 h2 h3 h4 h5 h6 h7 h8 hrun
        · cases hs
      · cases hs
    · rename_i t' hk
      split at hs
      · rename_i q3
        simp only [x_call] at hs
        split at hs
        · cases hs
          obtain ⟨pz, w1', w2', -⟩ := x_ml_ok hk
          intro ρ κ H locs als h1 h2 h3 h4 h5 h6 h7 h8
          have hrun := va_runSN (e := e) (below := below) (meth := meth) (locs := locs) (g := F0 m pc als (st.map (cv ρ))) (host := "WeighingDesign") (As := ((st.take (m_np t)).reverse).map (cv ρ)) (rest := (st.drop (m_np t)).map (cv ρ)) ⟨hx, hb, hml2, hown, hts⟩ (hM ρ κ D H.size) ⟨va_cnB (own := m_cn y) (m_np t) hts (x_good_in (x_ws_in c2)) rfl z1 z2 (by
                exact (x_nest (x_find_mem _ hk)).elim) hini ⟨f2, f3, f4⟩ hRR, hts _ (x_gwI (x_w w2') rfl), trivial⟩ ⟨xPre_blind, fun U hU hW => ⟨rfl, by rw [hU], by rw [hU]; exact h6.1, hK.warm hW, h6.2.2.2.1.moved hW.alike, h6.2.1.weaken (fun _ _ _ _ => trivial), h7.call c2s h6 hU hW.alike⟩⟩ rfl (by rw [List.length_map, List.length_reverse]; exact q3) h8.1 (by
              show st.map (cv ρ) = _
              rw [List.map_reverse, List.reverse_reverse, ← List.map_append, List.take_append_drop]) (lv_room (lv_cats c3)) hd (hfit h5)
          exact xGo_after hA kk htl hmc hgrow hscr hdead h1 h2 h3 h4 h5 h6 h7 h8 hrun
        · cases hs
      · cases hs
    · repeat' split at hs
      all_goals cases hs
    · repeat' split at hs
      all_goals cases hs
    · cases hs
  | invokespecial idx =>
    have hl := hlen.resolve_right (fun q => q)
    subst hl
    simp only [xs, x_invI, x_go] at hs
    split at hs
    · rename_i t' hk
      split at hs
      · rename_i a r' hst
        split at hs
        · rename_i q3
          simp only [x_call] at hs
          split at hs
          · cases hs
            obtain ⟨pz, w1', w2', w3', w4', w5'⟩ := x_ml_ok hk
            intro ρ κ H locs als h1 h2 h3 h4 h5 h6 h7 h8
            have hrun := va_runI (e := e) (below := below) (meth := meth) (locs := locs) (g := F0 m pc als (st.map (cv ρ))) (b := ρ a) (As := ((st.take (m_np t)).reverse).map (cv ρ)) (rest := r.map (cv ρ)) (ws := x_ws t) (bytes := m_bc t) (maxL := m_ml t) ⟨hx, hb, hml2, hown, hts⟩ (hM ρ κ D H.size) (cwI (own := m_cn y) (ws' := x_gw) (m_np t) hts (x_good_in (x_ws_in c2)) (by unfold x_ws; rw [w5']) z1 z2 hini (hts _ (x_gwI (x_w w1') rfl)) (hts _ (x_gwI (x_w w2') rfl)) w3' ⟨f2, f3, f4⟩ hRR) ⟨xPre_blind, fun U hU hW => ⟨rfl, by rw [hU], by rw [hU]; exact h6.1, hK.warm hW, h6.2.2.2.1.moved hW.alike, h6.2.1.weaken (fun _ _ _ _ => trivial), h7.call c2s h6 hU hW.alike⟩⟩ rfl (by rw [List.length_map, List.length_reverse]; exact q3) h8.1 (by
                show st.map (cv ρ) = _
                conv => lhs; rw [x_take hst]
                rw [List.map_append, List.map_reverse, List.reverse_reverse]
                rfl) (lv_room (lv_cats c3)) hd (hfit h5)
            exact xGo_after hA kk htl hmc hgrow hscr hdead h1 h2 h3 h4 h5 h6 h7 h8 hrun
          · cases hs
        · cases hs
      · cases hs
    · repeat' split at hs
      all_goals cases hs
    · cases hs
  | _ =>
    exfalso
    simp only [xs, x_iload, x_lload, x_aload, x_istore, x_lstore, x_astore, x_iinc, x_ii, x_ll, x_br, x_jgo, x_getf, x_putf, x_iald, x_cald, x_lald, x_aald, x_iast, x_cast, x_last, x_aast, x_alen, x_nobj, x_narr, x_nref, x_ngrid, x_invV, x_invS, x_invI, x_call, x_iret, x_lret, x_vret, x_ret, x_go, reduceCtorEq] at hs
    repeat' split at hs
    all_goals cases hs
end XR
