/-! One step of the small machine is a step of the claim's -/
def xCx (p : Program) (R : Room) (s : State) (m : MethodId) (args : Array Value) (meth : Method) (c : Code) (D : va_G) (A : Nat → Prop) (H0 : Heap) (y : Nat) : Prop :=
  p.tables.exec = Jvm.exec ∧ c.code = m_bc y ∧ c.maxLocals = m_ml y ∧ s.vm.findClass (m_cn y) = some m.cls ∧ (∀ w ∈ x_gw, w.before args s = true) ∧ (m_in y = true → meth.name = "<init>") ∧ R = m_rm y ∧ (∀ q, H0.size ≤ q → A q) ∧ xKn D s ∧ y ≤ m_law
def xSc (y : Nat) (ρ : Nat → Nat) (A : Nat → Prop) (H0 : Heap) (s : State) (w : xW) : Prop := m_sc y = true → ρ x_scr < H0.size ∧ ¬ A (ρ x_scr) ∧ va_X (ρ x_scr) w.2.2.1 w.2.2.2 s H0
def xGo (p : Program) (l : Launch) (e : Env) (R : Room) (s : State) (m : MethodId) (args : Array Value) (below : List Frame) (meth : Method) (c : Code) (Qf : State → Prop) (D : va_G) (A : Nat → Prop) (H0 : Heap) (ρ0 κ0 : Nat → Nat) (y b pc : Nat) (ls st : List Value) (w : xW) : Prop :=
  ∀ (ρ κ : Nat → Nat) (H : Heap) (locs : List Loc) (als : Array Slot), b ≤ w.1 → (m_mc y = 0 → w.1 = b ∧ ρ = ρ0 ∧ κ = κ0) → (∀ k, k < b ∨ k = x_scr → ρ k = ρ0 k) → (∀ k, k < b → κ k = κ0 k) → w.1 - b ≤ m_mc y → xRel ρ κ D A H0 H locs s w → xSc y ρ A H0 s w → lv_has als (m_ml y) (xl ρ ls) → W p l e R s m args below meth c H locs (w.1 - b) (600 * (w.1 - b)) Qf (F0 m pc als (st.map (cv ρ)))
section XS
variable {p : Program} {l : Launch} {e : Env} {R : Room} {s : State} {m : MethodId} {args : Array Value} {below : List Frame} {meth : Method} {c : Code} {Qf : State → Prop} {D : va_G} {A : Nat → Prop} {H0 : Heap} {ρ0 κ0 : Nat → Nat} {y b pc pc1 : Nat} {ls st ls1 st1 : List Value} {w w1 : xW}
theorem xGo_pure (hC : xCx p R s m args meth c D A H0 y) (h : ∀ (ρ : Nat → Nat) (H : Heap) (locs : List Loc) (cs sl : Nat) (als : Array Slot), cs ≤ R.cells → sl ≤ R.slots → lv_has als (m_ml y) (xl ρ ls) → (∀ als' : Array Slot, lv_has als' (m_ml y) (xl ρ ls1) → W p l e R s m args below meth c H locs cs sl Qf (F0 m pc1 als' (st1.map (cv ρ)))) → W p l e R s m args below meth c H locs cs sl Qf (F0 m pc als (st.map (cv ρ)))) (k : xGo p l e R s m args below meth c Qf D A H0 ρ0 κ0 y b pc1 ls1 st1 w) : xGo p l e R s m args below meth c Qf D A H0 ρ0 κ0 y b pc ls st w := by
  intro ρ κ H locs als h1 h2 h3 h4 h5 h6 h7 h8
  obtain ⟨-, -, -, -, -, -, hR, -, -, hy⟩ := hC
  obtain ⟨-, -, r3, r4⟩ := m_rm_ok y hy
  refine h ρ H locs _ _ als (by rw [hR]; omega) (by rw [hR]; omega) h8 (fun als' h9 => k ρ κ H locs als' h1 h2 h3 h4 h5 h6 h7 h9)
theorem sn_iload (hC : xCx p R s m args meth c D A H0 y) {k pc2 : Nat} (row : ∀ {H : Heap} {locs : List Loc} {cs sl : Nat} {als : Array Slot} {rest : List Value} {x : Int32}, als[k]? = some (.val (.int x)) → W p l e R s m args below meth c H locs cs sl Qf (F0 m pc2 als (.int x :: rest)) → W p l e R s m args below meth c H locs cs sl Qf (F0 m pc als rest)) (hs : x_iload k pc2 ls st w = some (.inl (pc1, ls1, st1, w1))) (kk : xGo p l e R s m args below meth c Qf D A H0 ρ0 κ0 y b pc1 ls1 st1 w1) : xGo p l e R s m args below meth c Qf D A H0 ρ0 κ0 y b pc ls st w := by
  unfold x_iload at hs
  split at hs
  · rename_i x hx
    cases hs
    exact xGo_pure hC (fun ρ H locs cs sl als _ _ hl k => row (xl_get hl hx (fun _ h => by cases h)) (k als hl)) kk
  · cases hs
theorem sn_lload (hC : xCx p R s m args meth c D A H0 y) {k pc2 : Nat} (row : ∀ {H : Heap} {locs : List Loc} {cs sl : Nat} {als : Array Slot} {rest : List Value} {x : Int64}, als[k]? = some (.val (.long x)) → W p l e R s m args below meth c H locs cs sl Qf (F0 m pc2 als (.long x :: rest)) → W p l e R s m args below meth c H locs cs sl Qf (F0 m pc als rest)) (hs : x_lload k pc2 ls st w = some (.inl (pc1, ls1, st1, w1))) (kk : xGo p l e R s m args below meth c Qf D A H0 ρ0 κ0 y b pc1 ls1 st1 w1) : xGo p l e R s m args below meth c Qf D A H0 ρ0 κ0 y b pc ls st w := by
  unfold x_lload at hs
  split at hs
  · rename_i x hx
    cases hs
    exact xGo_pure hC (fun ρ H locs cs sl als _ _ hl k => row (xl_get hl hx (fun _ h => by cases h)) (k als hl)) kk
  · cases hs
theorem sn_aload (hC : xCx p R s m args meth c D A H0 y) {k pc2 : Nat} (row : ∀ {H : Heap} {locs : List Loc} {cs sl : Nat} {als : Array Slot} {rest : List Value} {x : Nat}, als[k]? = some (.val (.ref x)) → W p l e R s m args below meth c H locs cs sl Qf (F0 m pc2 als (.ref x :: rest)) → W p l e R s m args below meth c H locs cs sl Qf (F0 m pc als rest)) (hs : x_aload k pc2 ls st w = some (.inl (pc1, ls1, st1, w1))) (kk : xGo p l e R s m args below meth c Qf D A H0 ρ0 κ0 y b pc1 ls1 st1 w1) : xGo p l e R s m args below meth c Qf D A H0 ρ0 κ0 y b pc ls st w := by
  unfold x_aload at hs
  split at hs
  · rename_i x hx
    cases hs
    exact xGo_pure hC (fun ρ H locs cs sl als _ _ hl k => row (xl_get hl hx (fun _ h => by cases h)) (k als hl)) kk
  · cases hs
theorem x_lt_ml {ρ : Nat → Nat} {als : Array Slot} {n k : Nat} (hk : k < ls.length) (hn : ls.length ≤ n) : k < n := by omega
theorem sn_istore (hC : xCx p R s m args meth c D A H0 y) (hml : ls.length = m_ml y) {k pc2 : Nat} (row : ∀ {H : Heap} {locs : List Loc} {cs sl nL : Nat} {als : Array Slot} {rest : List Value} {x : Int32} {lv lv' : List (Nat × Value)}, lv_has als nL lv → k < nL → (k, Value.int x) :: lv.filter (fun q => !(q.1 == k) && !(q.1 + 1 == k && q.2.category == 2)) = lv' → (∀ als' : Array Slot, lv_has als' nL lv' → W p l e R s m args below meth c H locs cs sl Qf (F0 m pc2 als' rest)) → W p l e R s m args below meth c H locs cs sl Qf (F0 m pc als (.int x :: rest))) (hs : x_istore k pc2 ls st w = some (.inl (pc1, ls1, st1, w1))) (kk : xGo p l e R s m args below meth c Qf D A H0 ρ0 κ0 y b pc1 ls1 st1 w1) : xGo p l e R s m args below meth c Qf D A H0 ρ0 κ0 y b pc ls st w := by
  unfold x_istore at hs
  split at hs
  · split at hs
    · rename_i x r hx
      cases hs
      exact xGo_pure hC (fun ρ H locs cs sl als _ _ hl k => row hl (by rw [← hml]; exact hx.1) rfl (fun als' h => k als' (lv_mono h (fun q hq => xl_st1 (v := .int x) hx.2 hq)))) kk
    · cases hs
  · cases hs
theorem sn_lstore (hC : xCx p R s m args meth c D A H0 y) (hml : ls.length = m_ml y) {k pc2 : Nat} (row : ∀ {H : Heap} {locs : List Loc} {cs sl nL : Nat} {als : Array Slot} {rest : List Value} {x : Int64} {lv lv' : List (Nat × Value)}, lv_has als nL lv → k + 1 < nL → (k, Value.long x) :: lv.filter (fun q => !(q.1 == k) && (!(q.1 == k + 1) && !(q.1 + 1 == k && q.2.category == 2))) = lv' → (∀ als' : Array Slot, lv_has als' nL lv' → W p l e R s m args below meth c H locs cs sl Qf (F0 m pc2 als' rest)) → W p l e R s m args below meth c H locs cs sl Qf (F0 m pc als (.long x :: rest))) (hs : x_lstore k pc2 ls st w = some (.inl (pc1, ls1, st1, w1))) (kk : xGo p l e R s m args below meth c Qf D A H0 ρ0 κ0 y b pc1 ls1 st1 w1) : xGo p l e R s m args below meth c Qf D A H0 ρ0 κ0 y b pc ls st w := by
  unfold x_lstore at hs
  split at hs
  · split at hs
    · rename_i x r hx
      cases hs
      exact xGo_pure hC (fun ρ H locs cs sl als _ _ hl k => row hl (by rw [← hml]; exact hx.1) rfl (fun als' h => k als' (lv_mono h (fun q hq => xl_st2 hx.2 hq)))) kk
    · cases hs
  · cases hs
theorem sn_astore (hC : xCx p R s m args meth c D A H0 y) (hml : ls.length = m_ml y) {k pc2 : Nat} (row : ∀ {H : Heap} {locs : List Loc} {cs sl nL : Nat} {als : Array Slot} {rest : List Value} {x : Nat} {lv lv' : List (Nat × Value)}, lv_has als nL lv → k < nL → (k, Value.ref x) :: lv.filter (fun q => !(q.1 == k) && !(q.1 + 1 == k && q.2.category == 2)) = lv' → (∀ als' : Array Slot, lv_has als' nL lv' → W p l e R s m args below meth c H locs cs sl Qf (F0 m pc2 als' rest)) → W p l e R s m args below meth c H locs cs sl Qf (F0 m pc als (.ref x :: rest))) (hs : x_astore k pc2 ls st w = some (.inl (pc1, ls1, st1, w1))) (kk : xGo p l e R s m args below meth c Qf D A H0 ρ0 κ0 y b pc1 ls1 st1 w1) : xGo p l e R s m args below meth c Qf D A H0 ρ0 κ0 y b pc ls st w := by
  unfold x_astore at hs
  split at hs
  · split at hs
    · rename_i x r hx
      cases hs
      exact xGo_pure hC (fun ρ H locs cs sl als _ _ hl k => row hl (by rw [← hml]; exact hx.1) rfl (fun als' h => k als' (lv_mono h (fun q hq => xl_st1 (v := .ref x) hx.2 hq)))) kk
    · cases hs
  · cases hs
theorem x_place {α : Type} {a : α} {l : List α} (h : a ∈ l) : ∃ k : Nat, l[k]? = some a := by
  obtain ⟨k, hk⟩ := List.getElem?_of_mem h
  exact ⟨k, hk⟩
theorem sn_iinc (hC : xCx p R s m args meth c D A H0 y) (hml : ls.length = m_ml y) {k : Nat} {n : Int} (hd : decode (m_bc y) pc = .ok (.iinc k n, 3)) (hs : x_iinc k n (pc + 3) ls st w = some (.inl (pc1, ls1, st1, w1))) (kk : xGo p l e R s m args below meth c Qf D A H0 ρ0 κ0 y b pc1 ls1 st1 w1) : xGo p l e R s m args below meth c Qf D A H0 ρ0 κ0 y b pc ls st w := by
  unfold x_iinc at hs
  split at hs
  · split at hs
    · rename_i x hg hx
      cases hs
      refine xGo_pure hC (fun ρ H locs cs sl als _ _ hl k2 => ?_) kk
      have hlt : k < ls.length := (List.getElem?_eq_some_iff.mp hg).1
      obtain ⟨j, hj⟩ := x_place (xl_mem (ρ := ρ) (q := (k, .int x)).mpr ⟨.int x, hg, (fun _ h => by cases h), rfl⟩)
      exact lv_iinc hC.1 hC.2.1 hd hl hj rfl (by rw [← hml]; exact hlt) rfl (fun als' h => k2 als' (lv_mono h (fun q hq => xl_st1 (v := .int (x + Int32.ofInt n)) hx hq)))
    · cases hs
  · cases hs
theorem sn_ii (hC : xCx p R s m args meth c D A H0 y) {f : Int32 → Int32 → Int32} (row : ∀ {H : Heap} {locs : List Loc} {cs sl : Nat} {als : Array Slot} {rest : List Value} {x z : Int32}, W p l e R s m args below meth c H locs cs sl Qf (F0 m (pc + 1) als (.int (f x z) :: rest)) → W p l e R s m args below meth c H locs cs sl Qf (F0 m pc als (.int z :: .int x :: rest))) (hs : x_ii f pc ls st w = some (.inl (pc1, ls1, st1, w1))) (kk : xGo p l e R s m args below meth c Qf D A H0 ρ0 κ0 y b pc1 ls1 st1 w1) : xGo p l e R s m args below meth c Qf D A H0 ρ0 κ0 y b pc ls st w := by
  unfold x_ii at hs
  split at hs
  · cases hs
    exact xGo_pure hC (fun ρ H locs cs sl als _ _ hl k => row (k als hl)) kk
  · cases hs
theorem sn_ll (hC : xCx p R s m args meth c D A H0 y) {f : Int64 → Int64 → Int64} (row : ∀ {H : Heap} {locs : List Loc} {cs sl : Nat} {als : Array Slot} {rest : List Value} {x z : Int64}, W p l e R s m args below meth c H locs cs sl Qf (F0 m (pc + 1) als (.long (f x z) :: rest)) → W p l e R s m args below meth c H locs cs sl Qf (F0 m pc als (.long z :: .long x :: rest))) (hs : x_ll f pc ls st w = some (.inl (pc1, ls1, st1, w1))) (kk : xGo p l e R s m args below meth c Qf D A H0 ρ0 κ0 y b pc1 ls1 st1 w1) : xGo p l e R s m args below meth c Qf D A H0 ρ0 κ0 y b pc ls st w := by
  unfold x_ll at hs
  split at hs
  · cases hs
    exact xGo_pure hC (fun ρ H locs cs sl als _ _ hl k => row (k als hl)) kk
  · cases hs
theorem x_jmp_ok {off : Int} {t : Nat} (h : x_jmp pc off = some t) : (pc : Int) + off = (t : Int) := by
  unfold x_jmp at h
  split at h
  · cases h
    omega
  · cases h
theorem sn_br (hC : xCx p R s m args meth c D A H0 y) {cd : Bool} {off : Int} {st2 : List Value} (row : ∀ {ρ : Nat → Nat} {H : Heap} {locs : List Loc} {cs sl : Nat} {als : Array Slot} {t : Nat}, (pc : Int) + off = (t : Int) → (cd = true → W p l e R s m args below meth c H locs cs sl Qf (F0 m t als (st2.map (cv ρ)))) → (cd = false → W p l e R s m args below meth c H locs cs sl Qf (F0 m (pc + 3) als (st2.map (cv ρ)))) → W p l e R s m args below meth c H locs cs sl Qf (F0 m pc als (st.map (cv ρ)))) (hs : x_br cd pc off ls st2 w = some (.inl (pc1, ls1, st1, w1))) (kk : xGo p l e R s m args below meth c Qf D A H0 ρ0 κ0 y b pc1 ls1 st1 w1) : xGo p l e R s m args below meth c Qf D A H0 ρ0 κ0 y b pc ls st w := by
  unfold x_br at hs
  split at hs
  · rename_i t ht
    cases hs
    refine xGo_pure hC (fun ρ H locs cs sl als _ _ hl k => row (x_jmp_ok ht) (fun e => ?_) (fun e => ?_)) kk
    · have := k als hl
      rw [e] at this
      exact this
    · have := k als hl
      rw [e] at this
      exact this
  · cases hs
/-! worlds -/
theorem xRel.at {ρ κ : Nat → Nat} {H : Heap} {locs : List Loc} (h : xRel ρ κ D A H0 H locs s w) {a : Nat} {cell : xC} (hc : rd w a = cell) (hn : cell ≠ .inr (99, [])) : a < w.1 ∧ (wl ρ κ w)[a]? = some (ρ a, ce ρ (κ a) cell) := by
  obtain ⟨-, -, -, -, hd⟩ := h
  have hlt : a < w.1 := by
    rcases Nat.lt_or_ge a w.1 with q | q
    · exact q
    · exact absurd (hc.symm.trans (hd a q)) hn
  refine ⟨hlt, ?_⟩
  rw [wl_get hlt, ← hc]
  rfl
/-- a cell is written: the world behind -/
theorem xRel.put {ρ κ : Nat → Nat} {H H1 : Heap} {locs locs1 : List Loc} (h : xRel ρ κ D A H0 H locs s w) {a : Nat} {cell : xC} (ha : a < w.1) (hP : va_P D vwCl ((wl ρ κ w).set a (ρ a, ce ρ (κ a) cell)) H1) (hD : va_D A ((wl ρ κ w).set a (ρ a, ce ρ (κ a) cell))) (hS : va_S A H0 H1 locs1) (hty : ∀ t x, cell = .inl (t, x) → ∃ x', rd w a = .inl (t, x')) : xRel ρ κ D A H0 H1 locs1 s (wr w a cell) := by
  obtain ⟨-, -, -, hT, hd⟩ := h
  rw [wl_set] at hP hD
  refine ⟨hP, hD, hS, fun k t x hk hx => ?_, fun k hk => ?_⟩
  · by_cases e : k = a
    · subst e
      have hx' : cell = .inl (t, x) := by simpa [wr] using hx
      obtain ⟨x', h'⟩ := hty t x hx'
      exact hT k t x' hk h'
    · have hx' : w.2.1 k = .inl (t, x) := by simpa [wr, e] using hx
      exact hT k t x hk hx'
  · have hk' : w.1 ≤ k := hk
    have : k ≠ a := by omega
    show (if k = a then cell else w.2.1 k) = _
    rw [if_neg this]
    exact hd k hk'
theorem sn_getf (hC : xCx p R s m args meth c D A H0 y) {idx ci k : Nat} (hf : x_fl (m_cl y) idx = some (ci, k)) (hd : decode (m_bc y) pc = .ok (.getfield idx, 3)) (hs : x_getf ci k pc ls st w = some (.inl (pc1, ls1, st1, w1))) (kk : xGo p l e R s m args below meth c Qf D A H0 ρ0 κ0 y b pc1 ls1 st1 w1) : xGo p l e R s m args below meth c Qf D A H0 ρ0 κ0 y b pc ls st w := by
  unfold x_getf at hs
  split at hs
  · rename_i a r
    split at hs
    · rename_i c' fs hrd
      split at hs
      · rename_i hci
        subst hci
        split at hs
        · rename_i v hv
          cases hs
          intro ρ κ H locs als h1 h2 h3 h4 h5 h6 h7 h8
          obtain ⟨hlt, hw⟩ := h6.at hrd (by intro q; cases q; rw [List.getElem?_nil] at hv; cases hv)
          obtain ⟨hx, hb, hml, hown, hts, hin, hR, hA, hK, hy⟩ := hC
          obtain ⟨g1, g2, g3⟩ := x_fl_ok hf
          refine va_get (v := cv ρ v) hx hb hts (x_layG _ g2) hown (xK0 hK) h6.1 a hw (x_cls _ g2) k g3 (hts _ g1) (fun _ h9 => h9) (by rw [List.getElem?_map, hv]; rfl) hd ?_
          exact kk ρ κ H locs als h1 h2 h3 h4 h5 h6 h7 h8
        · cases hs
      · cases hs
    · cases hs
  · cases hs
theorem x_kfit {ci k kd : Nat} {v : Value} {fin : Bool} {ρ : Nat → Nat} (hci : ci < 6) (hk : k < x_fn ci) (h : (x_fk ci)[k]? = some (kd, fin)) (hv : x_kok kd v = true) : narrow (x_ty ci k) (cv ρ v) = cv ρ v ∧ fits (x_ty ci k) (cv ρ v) = true ∧ (x_T ci k).2.2.2 = fin ∧ (x_T ci k).1 = x_cn ci := by
  obtain ⟨h1, h2, h3⟩ := x_fks ci hci k hk
  rw [h] at h1
  rcases h2 with e | e | ⟨t, e⟩ | ⟨t, e⟩ <;> rw [e] at h1 ⊢ <;> cases h1 <;> cases v <;> simp [x_kok] at hv <;> exact ⟨rfl, rfl, rfl, h3⟩
theorem sn_putf (hC : xCx p R s m args meth c D A H0 y) {idx ci k : Nat} (hf : x_fl (m_cl y) idx = some (ci, k)) (hd : decode (m_bc y) pc = .ok (.putfield idx, 3)) (hs : x_putf y ci k pc ls st w = some (.inl (pc1, ls1, st1, w1))) (kk : xGo p l e R s m args below meth c Qf D A H0 ρ0 κ0 y b pc1 ls1 st1 w1) : xGo p l e R s m args below meth c Qf D A H0 ρ0 κ0 y b pc ls st w := by
  unfold x_putf at hs
  split at hs
  · rename_i v a r
    split at hs
    · rename_i c' fs hrd
      split at hs
      · rename_i hci
        obtain ⟨rfl, hkl⟩ := hci
        split at hs
        · rename_i kd fin hv
          split at hs
          · rename_i hok
            cases hs
            intro ρ κ H locs als h1 h2 h3 h4 h5 h6 h7 h8
            obtain ⟨hlt, hw⟩ := h6.at hrd (by intro q; cases q; exact absurd hkl (Nat.not_lt_zero _))
            obtain ⟨hx, hb, hml, hown, hts, hin, hR, hA, hK, hy⟩ := hC
            obtain ⟨g1, g2, g3⟩ := x_fl_ok hf
            obtain ⟨f1, f2, f3, f4⟩ := x_kfit (ρ := ρ) g2 g3 hv hok.1
            have hset : (Sum.inr (c', (fs.map (cv ρ)).set k (cv ρ v)) : va_E) = ce ρ (κ a) (.inr (c', fs.set k v)) := by
              show _ = Sum.inr (c', (fs.set k v).map (cv ρ))
              rw [List.map_set]
            cases fin with
            | false =>
              refine va_put (A := A) (H0 := H0) hx hb hts (x_layG _ g2) (x_ty c') (x_tys _ g2) (x_nms _ g2) hown (xK0 hK) h6.1 h6.2.1 h6.2.2.1 a hw (x_cls _ g2) k g3 (hts _ g1) (fun _ h9 => h9) f3 (x_tys _ g2 k g3) f1 f2 (by rw [List.length_map]; exact hkl) hd (fun H1 locs1 hP hD hS => ?_)
              rw [hset] at hP hD
              exact kk ρ κ H1 locs1 als h1 h2 h3 h4 h5 (h6.put hlt hP hD hS (fun t x h => by cases h)) h7 h8
            | true =>
              obtain ⟨o1, o2⟩ := hok.2 rfl
              refine va_putF (A := A) (H0 := H0) hx hb hts (x_layG _ g2) (x_ty c') (x_tys _ g2) (x_nms _ g2) hown (xK0 hK) h6.1 h6.2.1 h6.2.2.1 a hw (x_cls _ g2) k g3 (hts _ g1) (fun _ h9 => h9) f3 (hin o1) (by rw [f4, ← o2]; rfl) (x_tys _ g2 k g3) f1 f2 (by rw [List.length_map]; exact hkl) hd (fun H1 locs1 hP hD hS => ?_)
              rw [hset] at hP hD
              exact kk ρ κ H1 locs1 als h1 h2 h3 h4 h5 (h6.put hlt hP hD hS (fun t x h => by cases h)) h7 h8
          · cases hs
        · cases hs
      · cases hs
    · cases hs
  · cases hs
theorem x_in_vp {i : Int32} {n : Nat} (h : x_in i n) : vp_in i n := fun q => q.elim h.1 (fun z => absurd h.2 (by omega))
theorem sn_iald (hC : xCx p R s m args meth c D A H0 y) (hd : decode (m_bc y) pc = .ok (.iaload, 1)) (hs : x_iald y pc ls st w = some (.inl (pc1, ls1, st1, w1))) (kk : xGo p l e R s m args below meth c Qf D A H0 ρ0 κ0 y b pc1 ls1 st1 w1) : xGo p l e R s m args below meth c Qf D A H0 ρ0 κ0 y b pc ls st w := by
  unfold x_iald at hs
  obtain ⟨hx, hb, hml, hown, hts, hin, hR, hA, hK, hy⟩ := hC
  split at hs
  · rename_i i a r
    split at hs
    · rename_i hyl
      split at hs
      · rename_i hi
        cases hs
        intro ρ κ H locs als h1 h2 h3 h4 h5 h6 h7 h8
        obtain ⟨s1, s2, s3⟩ := h7 hyl
        obtain ⟨rfl, hi⟩ := hi
        exact va_sld hx hb s3 s1 s2 h6.2.2.1 (x_in_vp hi) hd (kk ρ κ H locs als h1 h2 h3 h4 h5 h6 h7 h8)
      · cases hs
    · split at hs
      · rename_i t n f hrd
        split at hs
        · rename_i hi
          cases hs
          intro ρ κ H locs als h1 h2 h3 h4 h5 h6 h7 h8
          obtain ⟨rfl, hi⟩ := hi
          obtain ⟨hlt, hw⟩ := h6.at hrd (by intro q; cases q)
          exact va_iald hx hb (xK1 hK h6.2.2.2.1 hlt hrd) h6.1 a 0 hw rfl (x_in_vp hi) hd (kk ρ κ H locs als h1 h2 h3 h4 h5 h6 h7 h8)
        · cases hs
      · cases hs
  · cases hs
theorem sn_cald (hC : xCx p R s m args meth c D A H0 y) (hd : decode (m_bc y) pc = .ok (.caload, 1)) (hs : x_cald pc ls st w = some (.inl (pc1, ls1, st1, w1))) (kk : xGo p l e R s m args below meth c Qf D A H0 ρ0 κ0 y b pc1 ls1 st1 w1) : xGo p l e R s m args below meth c Qf D A H0 ρ0 κ0 y b pc ls st w := by
  unfold x_cald at hs
  obtain ⟨hx, hb, hml, hown, hts, hin, hR, hA, hK, hy⟩ := hC
  split at hs
  · rename_i i a r
    split at hs
    · rename_i t n f hrd
      split at hs
      · rename_i hi
        cases hs
        intro ρ κ H locs als h1 h2 h3 h4 h5 h6 h7 h8
        obtain ⟨rfl, hi⟩ := hi
        obtain ⟨hlt, hw⟩ := h6.at hrd (by intro q; cases q)
        exact va_cald hx hb (xK1 hK h6.2.2.2.1 hlt hrd) h6.1 a 0 hw rfl (x_in_vp hi) hd (kk ρ κ H locs als h1 h2 h3 h4 h5 h6 h7 h8)
      · cases hs
    · cases hs
  · cases hs
theorem sn_lald (hC : xCx p R s m args meth c D A H0 y) (hd : decode (m_bc y) pc = .ok (.laload, 1)) (hs : x_lald pc ls st w = some (.inl (pc1, ls1, st1, w1))) (kk : xGo p l e R s m args below meth c Qf D A H0 ρ0 κ0 y b pc1 ls1 st1 w1) : xGo p l e R s m args below meth c Qf D A H0 ρ0 κ0 y b pc ls st w := by
  unfold x_lald at hs
  obtain ⟨hx, hb, hml, hown, hts, hin, hR, hA, hK, hy⟩ := hC
  split at hs
  · rename_i i a r
    split at hs
    · rename_i t n f hrd
      split at hs
      · rename_i hi
        cases hs
        intro ρ κ H locs als h1 h2 h3 h4 h5 h6 h7 h8
        obtain ⟨rfl, hi⟩ := hi
        obtain ⟨hlt, hw⟩ := h6.at hrd (by intro q; cases q)
        exact va_lald hx hb (xK1 hK h6.2.2.2.1 hlt hrd) h6.1 a 0 hw rfl (x_in_vp hi) hd (kk ρ κ H locs als h1 h2 h3 h4 h5 h6 h7 h8)
      · cases hs
    · cases hs
  · cases hs
theorem sn_aald (hC : xCx p R s m args meth c D A H0 y) (hd : decode (m_bc y) pc = .ok (.aaload, 1)) (hs : x_aald pc ls st w = some (.inl (pc1, ls1, st1, w1))) (kk : xGo p l e R s m args below meth c Qf D A H0 ρ0 κ0 y b pc1 ls1 st1 w1) : xGo p l e R s m args below meth c Qf D A H0 ρ0 κ0 y b pc ls st w := by
  unfold x_aald at hs
  obtain ⟨hx, hb, hml, hown, hts, hin, hR, hA, hK, hy⟩ := hC
  split at hs
  · rename_i i a r
    split at hs
    · rename_i t n f hrd
      split at hs
      · rename_i hi
        split at hs
        · rename_i q hq
          cases hs
          intro ρ κ H locs als h1 h2 h3 h4 h5 h6 h7 h8
          obtain ⟨ht, hi⟩ := hi
          obtain ⟨hlt, hw⟩ := h6.at hrd (by intro q; cases q)
          have hv : (fun j => (f j).map ρ) i.toNatClampNeg = some (ρ q) := by
            show (f i.toNatClampNeg).map ρ = _
            rw [hq]
            rfl
          have hlt2 : i.toNatClampNeg < n := hi.2
          have hty : (tyc t).isReference = true := by rcases ht with rfl | rfl <;> rfl
          refine W.aald (v := .ref (ρ q)) (ty := tyc t) hx hb (h6.1 a _ hw) ((h6.2.2.2.1 a t _ hlt hrd).1 n (fun j => va_rf ((f j).map ρ))) hty (fun q => by cases q) (by show ¬ (i < 0 ∨ (arrV _ _ _).slots.size ≤ _); rw [arrV_size]; exact x_in_vp hi) (by show (arrV _ _ _).slots[_]? = _; rw [arrV_read _ _ hlt2, hv]; rfl) rfl rfl hd ?_
          exact kk ρ κ H locs als h1 h2 h3 h4 h5 h6 h7 h8
        · cases hs
      · cases hs
    · cases hs
  · cases hs
theorem sn_iast (hC : xCx p R s m args meth c D A H0 y) (hd : decode (m_bc y) pc = .ok (.iastore, 1)) (hs : x_iast pc ls st w = some (.inl (pc1, ls1, st1, w1))) (kk : xGo p l e R s m args below meth c Qf D A H0 ρ0 κ0 y b pc1 ls1 st1 w1) : xGo p l e R s m args below meth c Qf D A H0 ρ0 κ0 y b pc ls st w := by
  unfold x_iast at hs
  obtain ⟨hx, hb, hml, hown, hts, hin, hR, hA, hK, hy⟩ := hC
  split at hs
  · rename_i x i a r
    split at hs
    · rename_i t n f hrd
      split at hs
      · rename_i hi
        cases hs
        intro ρ κ H locs als h1 h2 h3 h4 h5 h6 h7 h8
        obtain ⟨rfl, hi⟩ := hi
        obtain ⟨hlt, hw⟩ := h6.at hrd (by intro q; cases q)
        refine va_iast hx hb (xK1 hK h6.2.2.2.1 hlt hrd) h6.1 h6.2.1 h6.2.2.1 a 0 hw rfl (x_in_vp hi) hd (fun H1 locs1 hP hD hS => ?_)
        exact kk ρ κ H1 locs1 als h1 h2 h3 h4 h5 (h6.put (cell := .inl (0, n, .inl (upd f i.toNatClampNeg x))) hlt hP hD hS (fun t x h => by cases h; exact ⟨_, hrd⟩)) h7 h8
      · cases hs
    · cases hs
  · cases hs
theorem sn_cast (hC : xCx p R s m args meth c D A H0 y) (hd : decode (m_bc y) pc = .ok (.castore, 1)) (hs : x_cast pc ls st w = some (.inl (pc1, ls1, st1, w1))) (kk : xGo p l e R s m args below meth c Qf D A H0 ρ0 κ0 y b pc1 ls1 st1 w1) : xGo p l e R s m args below meth c Qf D A H0 ρ0 κ0 y b pc ls st w := by
  unfold x_cast at hs
  obtain ⟨hx, hb, hml, hown, hts, hin, hR, hA, hK, hy⟩ := hC
  split at hs
  · rename_i x i a r
    split at hs
    · rename_i t n f hrd
      split at hs
      · rename_i hi
        cases hs
        intro ρ κ H locs als h1 h2 h3 h4 h5 h6 h7 h8
        obtain ⟨rfl, hi⟩ := hi
        obtain ⟨hlt, hw⟩ := h6.at hrd (by intro q; cases q)
        refine va_cast hx hb (xK1 hK h6.2.2.2.1 hlt hrd) h6.1 h6.2.1 h6.2.2.1 a 0 hw rfl (x_in_vp hi) hd (fun H1 locs1 hP hD hS => ?_)
        exact kk ρ κ H1 locs1 als h1 h2 h3 h4 h5 (h6.put (cell := .inl (2, n, .inl (upd f i.toNatClampNeg (vp_nar .char x)))) hlt hP hD hS (fun t x h => by cases h; exact ⟨_, hrd⟩)) h7 h8
      · cases hs
    · cases hs
  · cases hs
theorem sn_last (hC : xCx p R s m args meth c D A H0 y) (hd : decode (m_bc y) pc = .ok (.lastore, 1)) (hs : x_last pc ls st w = some (.inl (pc1, ls1, st1, w1))) (kk : xGo p l e R s m args below meth c Qf D A H0 ρ0 κ0 y b pc1 ls1 st1 w1) : xGo p l e R s m args below meth c Qf D A H0 ρ0 κ0 y b pc ls st w := by
  unfold x_last at hs
  obtain ⟨hx, hb, hml, hown, hts, hin, hR, hA, hK, hy⟩ := hC
  split at hs
  · rename_i x i a r
    split at hs
    · rename_i t n f hrd
      split at hs
      · rename_i hi
        cases hs
        intro ρ κ H locs als h1 h2 h3 h4 h5 h6 h7 h8
        obtain ⟨rfl, hi⟩ := hi
        obtain ⟨hlt, hw⟩ := h6.at hrd (by intro q; cases q)
        refine va_last hx hb (xK1 hK h6.2.2.2.1 hlt hrd) h6.1 h6.2.1 h6.2.2.1 a 0 hw rfl (x_in_vp hi) hd (fun H1 locs1 hP hD hS => ?_)
        exact kk ρ κ H1 locs1 als h1 h2 h3 h4 h5 (h6.put (cell := .inl (1, n, .inr (.inl (vp_updL f i.toNatClampNeg x)))) hlt hP hD hS (fun t x h => by cases h; exact ⟨_, hrd⟩)) h7 h8
      · cases hs
    · cases hs
  · cases hs
theorem sn_aast (hC : xCx p R s m args meth c D A H0 y) (hd : decode (m_bc y) pc = .ok (.aastore, 1)) (hs : x_aast pc ls st w = some (.inl (pc1, ls1, st1, w1))) (kk : xGo p l e R s m args below meth c Qf D A H0 ρ0 κ0 y b pc1 ls1 st1 w1) : xGo p l e R s m args below meth c Qf D A H0 ρ0 κ0 y b pc ls st w := by
  unfold x_aast at hs
  obtain ⟨hx, hb, hml, hown, hts, hin, hR, hA, hK, hy⟩ := hC
  split at hs
  · rename_i x i a r
    split at hs
    · rename_i t n f hrd
      split at hs
      · rename_i hi
        split at hs
        · rename_i fs hrx
          cases hs
          intro ρ κ H locs als h1 h2 h3 h4 h5 h6 h7 h8
          obtain ⟨rfl, hi⟩ := hi
          obtain ⟨hlt, hw⟩ := h6.at hrd (by intro q; cases q)
          obtain ⟨hlx, hwx⟩ := h6.at hrx (by intro q; cases q)
          refine va_astq (r := (x_cn 0, x_T 0, x_fn 0)) hx hb (xK1 hK h6.2.2.2.1 hlt hrd) h6.1 h6.2.1 h6.2.2.1 a 0 x 0 hw rfl hwx (x_cls 0 (by decide)) (x_in_vp hi) hd (fun H1 locs1 hP hD hS => ?_)
          have hset : (fun j => (va_up f i.toNatClampNeg (some x) j).map ρ) = va_up (fun j => (f j).map ρ) i.toNatClampNeg (some (ρ x)) := by
            funext j
            unfold va_up
            by_cases e : j = i.toNatClampNeg
            · rw [if_pos e, if_pos e]; rfl
            · rw [if_neg e, if_neg e]
          rw [← hset] at hP hD
          exact kk ρ κ H1 locs1 als h1 h2 h3 h4 h5 (h6.put (cell := .inl (3, n, .inr (.inr (.inr (.inr (va_up f i.toNatClampNeg (some x))))))) hlt hP hD hS (fun t x h => by cases h; exact ⟨_, hrd⟩)) h7 h8
        · cases hs
      · cases hs
    · cases hs
  · cases hs
theorem sn_alen (hC : xCx p R s m args meth c D A H0 y) (hd : decode (m_bc y) pc = .ok (.arraylength, 1)) (hs : x_alen y pc ls st w = some (.inl (pc1, ls1, st1, w1))) (kk : xGo p l e R s m args below meth c Qf D A H0 ρ0 κ0 y b pc1 ls1 st1 w1) : xGo p l e R s m args below meth c Qf D A H0 ρ0 κ0 y b pc ls st w := by
  unfold x_alen at hs
  obtain ⟨hx, hb, hml, hown, hts, hin, hR, hA, hK, hy⟩ := hC
  split at hs
  · rename_i a r
    split at hs
    · rename_i hi
      cases hs
      intro ρ κ H locs als h1 h2 h3 h4 h5 h6 h7 h8
      obtain ⟨hyl, rfl⟩ := hi
      obtain ⟨s1, s2, s3⟩ := h7 hyl
      exact va_slen hx hb s3 s1 s2 h6.2.2.1 hd (kk ρ κ H locs als h1 h2 h3 h4 h5 h6 h7 h8)
    · cases hs
  · cases hs
end XS
