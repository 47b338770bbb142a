/-! A run of the small machine is a run of the claim's -/
def xTp (y : Nat) (i : Instr) (st : List Value) (o : Option Value) : Prop := (i = .return_ ∧ st = [] ∧ o = none ∧ m_rt y = none) ∨ (∃ v ty, i = .ireturn ∧ st = [.int v] ∧ o = some (.int v) ∧ m_rt y = some ty ∧ narrow ty (.int v) = .int v) ∨ (∃ v, i = .lreturn ∧ st = [.long v] ∧ o = some (.long v) ∧ m_rt y = some .long)
/-- what is owed at a method's end -/
def xRt (p : Program) (l : Launch) (e : Env) (R : Room) (s : State) (m : MethodId) (args : Array Value) (below : List Frame) (meth : Method) (c : Code) (Qf : State → Prop) (D : va_G) (A : Nat → Prop) (H0 : Heap) (ρ0 κ0 : Nat → Nat) (y b : Nat) (o : Option Value) (w2 : xW) : Prop :=
  ∀ (ρ κ : Nat → Nat) (H : Heap) (locs : List Loc) (als : Array Slot) (pc : Nat) (i : Instr) (st : List Value), decode (m_bc y) pc = .ok (i, 1) → xTp y i st o → (m_mc y = 0 → w2.1 = b ∧ ρ = ρ0 ∧ κ = κ0) → (∀ k, k < b ∨ k = x_scr → ρ k = ρ0 k) → (∀ k, k < b → κ k = κ0 k) → b ≤ w2.1 → w2.1 - b ≤ m_mc y → xRel ρ κ D A H0 H locs s w2 → W p l e R s m args below meth c H locs (w2.1 - b) (600 * (w2.1 - b)) Qf (F0 m pc als (st.map (cv ρ)))
def xSnd (l : Launch) (n : Nat) : Prop := ∀ {y b pc : Nat} {ls st : List Value} {w w2 : xW} {o : Option Value}, RunP n y b pc ls st w o w2 → y ≤ m_law → ls.length = m_ml y → ∀ {p : Program} {e : Env} {R : Room} {s : State} {m : MethodId} {args : Array Value} {below : List Frame} {meth : Method} {c : Code} {Qf : State → Prop} {D : va_G} {A : Nat → Prop} {H0 : Heap} {ρ0 κ0 : Nat → Nat}, xCx p R s m args meth c D A H0 y → xRt p l e R s m args below meth c Qf D A H0 ρ0 κ0 y b o w2 → xGo p l e R s m args below meth c Qf D A H0 ρ0 κ0 y b pc ls st w
set_option maxHeartbeats 1000000 in
theorem xMet_of {l : Launch} {n t : Nat} {as : List Value} {w w1 : xW} {o1 : Option Value} (IH : xSnd l n) (h : RunP n t w.1 0 (x_ent as (m_ml t)) [] w o1 w1) (ht : t < m_law) (has : xlen_args as ≤ m_ml t) (hdead : x_dead w) : xMet l t as w w1 o1 := by
  obtain ⟨k1, k2, k3, k4, k5⟩ := RunP_keep n h (Nat.le_refl _)
  have htl : t ≠ m_law := by omega
  have hmc : w1.1 - w.1 = m_mc t := by
    rcases k4 with z | z | z
    · have := k3 z
      omega
    · exact absurd z htl
    · omega
  intro ρ κ D sz
  obtain ⟨f1, f2, f3, f4, f5⟩ := m_facts t ht
  refine Met.ofW (cc := m_bc t) (maxL := m_ml t) (ret := m_rt t) f1 rfl ?_
  intro p e s m args below meth c s₁ B hml hv
  obtain ⟨rfl, hsz, hP, hK, hT, hD0, hSc⟩ := hv
  have hx := B.exec
  have hb := B.bytes
  have hr := B.returns
  have hts := atoms_spec (ws := x_ws t) B.pre
  have hts2 : ∀ w ∈ x_gw, w.before (as.map (cv ρ)).toArray s = true := fun wd hw => hts wd (List.mem_cons_of_mem _ hw)
  have hown : s.vm.findClass (m_cn t) = some m.cls := findClass_of_methodNamed B.named
  have hlocks := B.notSynchronized
  have hin : m_in t = true → meth.name = "<init>" := fun q => by
    have h1 := (name_of_methodNamed B.named B.method).1
    rw [h1]
    have q2 : (m_nd t).1 = "<init>" := by simpa [m_in] using q
    exact q2
  subst hsz
  have hD := hD0.self (sz := s.heap.size)
  have hA : ∀ q : Nat, s.heap.size ≤ q → va_A (wl ρ κ w) s.heap.size q := fun q h => Or.inr h
  have hCx : xCx p (m_rm t) s m (as.map (cv ρ)).toArray meth c D (va_A (wl ρ κ w) s.heap.size) s.heap t := ⟨hx, hb, hml, hown, hts2, hin, rfl, hA, hK, by omega⟩
  rw [lg_entry_eq]
  have hrel : xRel ρ κ D (va_A (wl ρ κ w) s.heap.size) s.heap s.heap [] s w := ⟨hP, hD, va_S.rf, hT, hdead⟩
  have K := IH (p := p) (e := e) (R := m_rm t) (s := s) (m := m) (args := (as.map (cv ρ)).toArray) (below := below) (meth := meth) (c := c) (Qf := MQ below (xQ ρ κ D (va_A (wl ρ κ w) s.heap.size) t w w1 o1) (as.map (cv ρ)).toArray s (m_mc t) (600 * m_mc t) (va_A (wl ρ κ w) s.heap.size)) (ρ0 := ρ) (κ0 := κ) h (by omega) (x_ent_len has) hCx (by
    intro ρ' κ' H locs als pc i st hd htp g1 g2 g3 g4 g5 g6
    rw [hmc]
    have hq : ∀ (oc : Outcome), oc = .returned (o1.map (cv ρ')) → ∀ u : State, u.heap = H → s.WarmedH u.vm → xQ ρ κ D (va_A (wl ρ κ w) s.heap.size) t w w1 o1 (as.map (cv ρ)).toArray s oc u := fun oc hoc u hu hW => ⟨⟨ρ', κ', fun z => (g1 z).2, g2, g3, hoc, by rw [hu]; exact g6.1, g6.2.1, g6.2.2.2.1.moved hW.alike⟩, g6.2.2.1.F hu⟩
    rcases htp with ⟨rfl, rfl, rfl, e4⟩ | ⟨v, ty, rfl, rfl, rfl, e4, e5⟩ | ⟨v, rfl, rfl, rfl, e4⟩
    · exact W.vret hx hb (hr.trans e4) (hq _ rfl) g6.2.2.1.2.2 hd
    · exact W.zret hx hb (hr.trans e4) e5 (hq _ rfl) g6.2.2.1.2.2 hd
    · exact W.lret hx hb (hr.trans e4) (hq _ rfl) g6.2.2.1.2.2 hd)
  have K2 := K ρ κ s.heap [] _ (Nat.le_refl _) (fun _ => ⟨rfl, rfl, rfl⟩) (fun _ _ => rfl) (fun _ _ => rfl) (by omega) hrel hSc (xl_ent has)
  rw [Nat.sub_self] at K2
  exact K2
theorem snd (l : Launch) : ∀ n : Nat, xSnd l n := by
  intro n
  induction n with
  | zero => exact fun h => h.elim
  | succ n ih =>
    intro y b pc ls st w w2 o h hy hml p e R s m args below meth c Qf D A H0 ρ0 κ0 hC hrt
    obtain ⟨i, len, hd, hl, hs⟩ := h
    cases hx : xs y b pc i ls st w with
    | none => rw [hx] at hs; exact hs.elim
    | some z =>
      rw [hx] at hs
      rcases z with ⟨pc1, ls1, st1, w1⟩ | r | ⟨t, as, r⟩
      · obtain ⟨k1, -, -, -, -⟩ := xs_keep hx
        exact xs_snd hC hml hd hl hx (ih hs hy (k1.trans hml) hC hrt)
      · obtain ⟨rfl, rfl⟩ := hs
        obtain ⟨k1, k2⟩ := xs_ret hx
        intro ρ κ H locs als h1 h2 h3 h4 h5 h6 h7 h8
        have hd1 : decode (m_bc y) pc = .ok (i, 1) := by
          rcases k2 with ⟨rfl, -⟩ | ⟨v, ty, rfl, -⟩ | ⟨v, rfl, -⟩ <;> exact x_dl hd (hl.resolve_right (fun q => q))
        exact hrt ρ κ H locs als pc i st hd1 k2 h2 h3 h4 h1 h5 h6
      · obtain ⟨o1, w1, g1, g2⟩ := hs
        obtain ⟨c1, ⟨c2, c2s⟩, c3, c4, c5⟩ := xs_call hx
        obtain ⟨k1, k2, k3, k4, k5⟩ := RunP_keep n g1 (Nat.le_refl _)
        intro ρ κ H locs als h1 h2 h3 h4 h5 h6 h7 h8
        have hM := xMet_of ih g1 c2 c4 h6.2.2.2.2
        have hgrow : w1.1 = w.1 + m_mc t := by
          rcases k4 with z | z | z
          · have := k3 z
            omega
          · omega
          · exact z
        exact xs_inv hC hml hd hl hx hM hgrow k1 (k5 h6.2.2.2.2) (ih g2 hy hml hC hrt) ρ κ H locs als h1 h2 h3 h4 h5 h6 h7 h8
/-! The law: its start -/
def x_w0 (L : Nat) (sc : Nat → Int32) : xW := (0, fun _ => .inr (99, []), (L, sc))
def xLaw (L : Nat) (sc : Nat → Int32) : Prop := ∃ (n : Nat) (w2 : xW), RunP n m_law 0 0 [.ref x_scr, x_no, x_no, x_no, x_no, x_no, x_no, x_no, x_no, x_no, x_no, x_no, x_no, x_no] [] (x_w0 L sc) (some (.int 1)) w2
