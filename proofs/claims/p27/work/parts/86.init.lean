/-! What is made: worlds in which all references lead to cells -/
def okW (w : xW) : Prop := (∀ k, k < w.1 → x_wfc w.1 (w.2.1 k) = true) ∧ w.1 < 1000
theorem wfv_up {n : Nat} {v : Value} (h : x_wfv n v = true) : x_wfv (n + 1) v = true := by
  unfold x_wfv at *
  split
  · rename_i k
    simp only [Bool.or_eq_true, decide_eq_true_eq] at h ⊢
    rcases h with h | h
    · exact Or.inl (Nat.lt_succ_of_lt h)
    · exact Or.inr h
  · rfl
theorem wfc_up {n : Nat} {c : xC} (h : x_wfc n c = true) : x_wfc (n + 1) c = true := by
  rcases c with ⟨t, len, a⟩ | ⟨ci, fs⟩
  · rcases a with f | f | f | f | f
    · rfl
    · rfl
    · rfl
    · rfl
    · simp only [x_wfc, List.all_eq_true] at h ⊢
      intro j hj
      have := h j hj
      cases e : f j with
      | none => rfl
      | some k =>
        rw [e] at this
        simp only [decide_eq_true_eq] at this ⊢
        omega
  · simp only [x_wfc, List.all_eq_true] at h ⊢
    exact fun v hv => wfv_up (h v hv)
theorem okW.new {w : xW} {c : xC} (h : okW w) (h1 : w.1 + 1 < 1000) (hc : x_wfc (w.1 + 1) c = true) : okW (x_new w c) := by
  refine ⟨fun k hk => ?_, h1⟩
  have hk2 : k < w.1 + 1 := hk
  show x_wfc (w.1 + 1) (if k = w.1 then c else w.2.1 k) = true
  by_cases e : k = w.1
  · rw [if_pos e]
    exact hc
  · rw [if_neg e]
    exact wfc_up (h.1 k (by omega))
theorem okW.wr {w : xW} {a : Nat} {c : xC} (h : okW w) (hc : x_wfc w.1 c = true) : okW (wr w a c) := by
  refine ⟨fun k hk => ?_, h.2⟩
  show x_wfc w.1 (if k = a then c else w.2.1 k) = true
  by_cases e : k = a
  · rw [if_pos e]
    exact hc
  · rw [if_neg e]
    exact h.1 k hk
theorem wf_of {w : xW} {ls st : List Value} (h : okW w) (h1 : ls.all (x_wfv w.1) = true) (h2 : st.all (x_wfv w.1) = true) : x_wf w ls st = true := by
  unfold x_wf
  rw [h1, h2, Bool.and_true, Bool.and_true, Bool.and_eq_true, decide_eq_true_eq, List.all_eq_true]
  exact ⟨fun k hk => h.1 k (List.mem_range.mp hk), h.2⟩
theorem wfv_ref {n k : Nat} (h : k < n) : x_wfv n (.ref k) = true := by
  unfold x_wfv
  simp only [Bool.or_eq_true, decide_eq_true_eq]
  exact Or.inl h
theorem wfv_scr {n : Nat} : x_wfv n (.ref x_scr) = true := by
  unfold x_wfv
  simp only [Bool.or_eq_true]
  exact Or.inr (by decide)
theorem all_set {n k : Nat} {v : Value} : ∀ {fs : List Value}, fs.all (x_wfv n) = true → x_wfv n v = true → (fs.set k v).all (x_wfv n) = true := by
  intro fs h hv
  rw [List.all_eq_true] at h ⊢
  intro x hx
  rcases List.mem_or_eq_of_mem_set hx with q | q
  · exact h x q
  · rw [q]
    exact hv
theorem rd_nw {w : xW} {c : xC} {k : Nat} : rd (x_new w c) k = if k = w.1 then c else rd w k := rfl
section IN
variable {y b pc idx ci k t : Nat} {ls S : List Value} {w : xW} {Q : Option Value → xW → Prop}
theorem Wp_new (hd : decode (m_bc y) pc = .ok (.new idx, 3)) (hn : x_nl (m_cl y) idx = some (ci, k)) (h1 : w.1 - b + 1 ≤ m_mc y) (h2 : x_wf w ls S = true) : Wp y b pc ls S w Q ↔ Wp y b (pc + 3) ls (.ref w.1 :: S) (x_new w (.inr (ci, x_df ci))) Q := Wp_go (i := .new idx) hd (by
  have e : xs y b pc (.new idx) ls S w = x_nobj y b idx pc ls S w := rfl
  rw [e]
  simp only [x_nobj, hn]
  rw [if_pos ⟨h1, h2⟩]
  rfl)
theorem Wp_newI {n : Int32} (hd : decode (m_bc y) pc = .ok (.newarray .int, 2)) (h1 : w.1 - b + 1 ≤ m_mc y) (h2 : x_wf w ls S = true) (h3 : ¬ n < 0) (h4 : n.toNatClampNeg ≤ 600) : Wp y b pc ls (.int n :: S) w Q ↔ Wp y b (pc + 2) ls (.ref w.1 :: S) (x_new w (.inl (0, n.toNatClampNeg, .inl (fun _ => 0)))) Q := Wp_go (i := .newarray .int) hd (by
  have e : xs y b pc (.newarray .int) ls (.int n :: S) w = x_narr y b .int pc ls (.int n :: S) w := rfl
  rw [e]
  simp only [x_narr]
  rw [if_pos ⟨h1, h2, h3, h4⟩]
  rfl)
theorem Wp_newC {n : Int32} (hd : decode (m_bc y) pc = .ok (.newarray .char, 2)) (h1 : w.1 - b + 1 ≤ m_mc y) (h2 : x_wf w ls S = true) (h3 : ¬ n < 0) (h4 : n.toNatClampNeg ≤ 600) : Wp y b pc ls (.int n :: S) w Q ↔ Wp y b (pc + 2) ls (.ref w.1 :: S) (x_new w (.inl (2, n.toNatClampNeg, .inl (fun _ => 0)))) Q := Wp_go (i := .newarray .char) hd (by
  have e : xs y b pc (.newarray .char) ls (.int n :: S) w = x_narr y b .char pc ls (.int n :: S) w := rfl
  rw [e]
  simp only [x_narr]
  rw [if_pos ⟨h1, h2, h3, h4⟩]
  rfl)
theorem Wp_newL {n : Int32} (hd : decode (m_bc y) pc = .ok (.newarray .long, 2)) (h1 : w.1 - b + 1 ≤ m_mc y) (h2 : x_wf w ls S = true) (h3 : ¬ n < 0) (h4 : n.toNatClampNeg ≤ 600) : Wp y b pc ls (.int n :: S) w Q ↔ Wp y b (pc + 2) ls (.ref w.1 :: S) (x_new w (.inl (1, n.toNatClampNeg, .inr (.inl (fun _ => 0))))) Q := Wp_go (i := .newarray .long) hd (by
  have e : xs y b pc (.newarray .long) ls (.int n :: S) w = x_narr y b .long pc ls (.int n :: S) w := rfl
  rw [e]
  simp only [x_narr]
  rw [if_pos ⟨h1, h2, h3, h4⟩]
  rfl)
theorem Wp_newR {n : Int32} (hd : decode (m_bc y) pc = .ok (.anewarray idx, 3)) (h0 : x_nl (m_cl y) idx = some (0, 0)) (h1 : w.1 - b + 1 ≤ m_mc y) (h2 : x_wf w ls S = true) (h3 : ¬ n < 0) (h4 : n.toNatClampNeg ≤ 600) : Wp y b pc ls (.int n :: S) w Q ↔ Wp y b (pc + 3) ls (.ref w.1 :: S) (x_new w (.inl (3, n.toNatClampNeg, .inr (.inr (.inr (.inr (fun _ => none))))))) Q := Wp_go (i := .anewarray idx) hd (by
  have e : xs y b pc (.anewarray idx) ls (.int n :: S) w = x_nref y b idx pc ls (.int n :: S) w := rfl
  rw [e]
  simp only [x_nref]
  rw [if_pos ⟨h1, h2, h3, h4, h0⟩]
  rfl)
theorem Wp_newG {n z : Int32} (hd : decode (m_bc y) pc = .ok (.multianewarray idx 2, 4)) (h0 : x_mna (m_cl y) idx = true) (h1 : w.1 - b + (1 + n.toNatClampNeg) ≤ m_mc y) (h2 : x_wf w ls S = true) (h3 : ¬ n < 0) (h4 : n.toNatClampNeg ≤ 20) (h5 : ¬ z < 0) (h6 : z.toNatClampNeg ≤ 20) : Wp y b pc ls (.int z :: .int n :: S) w Q ↔ Wp y b (pc + 4) ls (.ref w.1 :: S) (x_rows (x_new w (.inl (4, n.toNatClampNeg, .inr (.inr (.inr (.inr (fun i => if i < n.toNatClampNeg then some (w.1 + 1 + i) else none))))))) z.toNatClampNeg n.toNatClampNeg) Q := Wp_go (i := .multianewarray idx 2) hd (by
  have e : xs y b pc (.multianewarray idx 2) ls (.int z :: .int n :: S) w = x_ngrid y b idx pc ls (.int z :: .int n :: S) w := rfl
  rw [e]
  simp only [x_ngrid]
  rw [if_pos ⟨h1, h2, h3, h4, h5, h6, h0⟩]
  rfl)
theorem Wp_putff {a kd : Nat} {v : Value} (hd : decode (m_bc y) pc = .ok (.putfield idx, 3)) (hf : x_fl (m_cl y) idx = some (ci, k)) (hk : (x_fk ci)[k]? = some (kd, true)) (hv : x_kok kd v = true) (hm : m_in y = true ∧ m_cl y = ci) : Wp y b pc ls (v :: .ref a :: S) w Q ↔ x_pF (rd w a) ci k v (fun c => Wp y b (pc + 3) ls S (wr w a c) Q) := by
  have hs : xs y b pc (.putfield idx) ls (v :: .ref a :: S) w = x_putf y ci k pc ls (v :: .ref a :: S) w := by
    simp only [xs, hf]
  by_cases h : ∃ fs, rd w a = .inr (ci, fs) ∧ k < fs.length
  · obtain ⟨fs, h1, h2⟩ := h
    rw [Wp_go (pc1 := pc + 3) (ls1 := ls) (st1 := S) (w1 := wr w a (.inr (ci, fs.set k v))) hd (by rw [hs]; simp [x_putf, h1, h2, hk, hv, hm, x_go])]
    constructor
    · exact fun q => ⟨fs, h1, h2, q⟩
    · rintro ⟨fs', g1, g2, q⟩
      rw [h1] at g1
      cases g1
      exact q
  · rw [Wp_none hd (by
      rw [hs]
      simp only [x_putf]
      split
      · rename_i c' fs h1
        split
        · rename_i hc
          obtain ⟨hc, h2⟩ := hc
          subst hc
          exact absurd ⟨fs, h1, h2⟩ h
        · rfl
      · rfl)]
    constructor
    · exact fun q => q.elim
    · rintro ⟨fs, h1, h2, -⟩
      exact h ⟨fs, h1, h2⟩
theorem m_sc_np (h : m_np t = 0) : m_sc t = false := by
  cases hm : m_sc t with
  | false => rfl
  | true =>
    simp only [m_sc, Bool.or_eq_true, beq_iff_eq] at hm
    rcases hm with ((rfl | rfl) | rfl) | rfl <;> exact absurd h (by decide)
theorem Wp_ini {a : Nat} (hd : decode (m_bc y) pc = .ok (.invokespecial idx, 3)) (hl : x_ml (m_cl y) idx = some (2, t)) (hnp : m_np t = 0) (hdp : m_dp t < m_dp y) (hlaw : t < m_law) (hS : (S.map Value.category).sum ≤ 8) (hml : 1 ≤ m_ml t) (hmc : w.1 - b + m_mc t ≤ m_mc y) (hwf : x_wf w ls S = true) (ha : x_wfv w.1 (.ref a) = true) : Wp y b pc ls (.ref a :: S) w Q ↔ Wp t w.1 0 (x_ent [.ref a] (m_ml t)) [] w (fun o1 w1 => Wp y b (pc + 3) ls (rl o1 S) w1 Q) := Wp_call (i := .invokespecial idx) hd (by
  have e : xs y b pc (.invokespecial idx) ls (.ref a :: S) w = x_invI y b idx pc ls (.ref a :: S) w := rfl
  rw [e]
  simp only [x_invI, hl, hnp, List.drop_zero, List.take_zero, List.length_nil, if_true, List.reverse_nil]
  unfold x_call
  rw [if_pos ⟨hdp, ⟨hlaw, fun z => absurd (m_sc_np hnp) (by rw [z]; exact Bool.noConfusion)⟩, Nat.le_of_ble_eq_true rfl, hS, hml, Or.inr ⟨hmc, hwf, by simp [ha]⟩⟩])
theorem Wp_retI (hd : decode (m_bc y) pc = .ok (.return_, 1)) (hr : m_rt y = none) (h : w.1 = b + m_mc y) : Wp y b pc ls [] w Q ↔ Q none w := Wp_ret (i := .return_) hd (by
  have e : xs y b pc .return_ ls [] w = x_vret y b [] w := rfl
  rw [e]
  simp only [x_vret, hr, x_ret]
  rw [if_pos (Or.inr (Or.inr h))])
/-- an array made and put into a field -/
theorem st_A {o : Nat} {c : xC} {pc2 : Nat} {fs : List Value} (e1 : Wp y b pc ls [] w Q ↔ Wp y b pc2 ls (.ref w.1 :: .ref o :: []) (x_new w c) Q) (hp : decode (m_bc y) pc2 = .ok (.putfield idx, 3)) (hf : x_fl (m_cl y) idx = some (ci, k)) (hk : (x_fk ci)[k]? = some (2, true)) (hm : m_in y = true ∧ m_cl y = ci) (ok : okW w) (h1 : w.1 + 1 < 1000) (hc : x_wfc (w.1 + 1) c = true) (ho : o < w.1) (hfs : rd w o = .inr (ci, fs)) (hkl : k < fs.length) (K : ∀ w2, w2.1 = w.1 + 1 → okW w2 → w2.2.2 = w.2.2 → rd w2 w.1 = c → rd w2 o = .inr (ci, fs.set k (.ref w.1)) → (∀ j, j ≠ o → j ≠ w.1 → rd w2 j = rd w j) → Wp y b (pc2 + 3) ls [] w2 Q) : Wp y b pc ls [] w Q := by
  rw [e1, Wp_putff hp hf hk rfl hm]
  have r : rd (x_new w c) o = .inr (ci, fs) := by
    rw [rd_nw, if_neg (by omega)]
    exact hfs
  refine ⟨fs, r, hkl, ?_⟩
  have ok2 := ok.new h1 hc
  have wo : x_wfc (w.1 + 1) (.inr (ci, fs)) = true := by
    have := ok2.1 o (show o < w.1 + 1 by omega)
    have r2 : (x_new w c).2.1 o = .inr (ci, fs) := r
    rw [r2] at this
    exact this
  refine K _ rfl (ok2.wr (all_set wo (wfv_ref (show w.1 < w.1 + 1 by omega)))) rfl ?_ rd_s (fun j h2 h3 => ?_)
  · rw [rd_n (by omega), rd_nw, if_pos rfl]
  · rw [rd_n h2, rd_nw, if_neg h3]
end IN
