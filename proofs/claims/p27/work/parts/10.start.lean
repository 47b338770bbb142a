/-! THE CLAIM OUT OF ONE WALK OF THE LAW'S BODY. Your part is whole_start (and what it stands on); all else here is the same for every law, but numbers. -/
def R_law : String := "WeighingDesignLaw"
def lw_P (b : Addr) (xs : List Int32) (args : Array Value) (s : State) : Prop := args = #[.ref b] ∧ s.IntsAt b xs ∧ xs.length ≤ 260 ∧ (Jvm.Cond.and given_1 narrow_1).before args s = true
def lw_Q (_ : Array Value) (s : State) (o : Outcome) (t : State) : Prop := o = .returned (some (.int 1)) ∧ Framed s o t [] 600000 7302250
def lw_Z (below : List Frame) (a : Array Value) (s : State) : State → Prop := fun t => ∃ o, t.status = .running ∧ Ended t below o ∧ lw_Q a s o t
/-- the law's own end, with 1 on the stack, nothing written that was there before, its room as the claim has it -/
theorem lw_ret {p : Program} {l : Launch} {e : Env} {s : State} {m : MethodId} {below : List Frame} {meth : Method} {c : Code} {b : Nat} (hx : p.tables.exec = Jvm.exec) (hb : c.code = code) (hr : meth.sig.returnType = ret) (hlocks : meth.locks = false) {pc : Nat} {H : Heap} {ls : Array Slot} (hdg : decode code pc = .ok (.ireturn, 1)) : W p l e room_1 s m #[Value.ref b] below meth c H [] 600000 7302250 (lw_Z below #[Value.ref b] s) (F0 m pc ls [.int 1]) := by
  intro T hT X
  obtain ⟨fs, hret, hrun, hended, hW, hframe⟩ := X.leave (v := some (.int 1)) (hlocks := hlocks) (fun h => by rw [hr] at h; cases h)
  have hmeth' : T.vm.method? m = some meth := X.method'
  refine ⟨T.setFrames fs, ?_, .returned (some (.int 1)), hrun, hended, rfl, ⟨_, rfl⟩, hW, hframe⟩
  jvm_step X.here [X.here.top, hx, hb, hdg, hmeth', hr, ret, narrow_b1]
  (try refine ⟨rfl, ?_⟩); (try refine ⟨rfl, ?_⟩)
  first | (intro acts; rw [hret _ acts rfl rfl rfl]) | rw [hret _ _ rfl rfl rfl]
  exact Steps.refl _
/-- what holds at the law's entry: the machine, the code, the tables' words (any of lw_tbl by 'hts w (by decide +kernel)'), the script of L ints xs at the cell b, what the Statement gives of the start (any of its parts by flat_of_before) -/
def lw_At (p : Program) (s : State) (m : MethodId) (meth : Method) (c : Code) (b L : Nat) (xs : Nat → Int32) : Prop :=
  p.tables.exec = Jvm.exec ∧ c.code = code ∧ meth.sig.returnType = ret ∧ c.maxLocals = 14 ∧ s.vm.findClass R_law = some m.cls ∧ (∀ w ∈ lw_tbl, w.before #[Value.ref b] s = true) ∧ va_X b L xs s s.heap ∧ b < s.heap.size ∧ meth.locks = false ∧ (Jvm.Cond.and given_1 narrow_1).before #[Value.ref b] s = true

theorem x_start {p : Program} {e : Env} {s : State} {m : MethodId} {below : List Frame} {meth : Method} {c : Code} (l : Launch) {b L : Nat} {sc : Nat → Int32} (C0 : lw_At p s m meth c b L sc) (hrun : xLaw L sc) : W p l e room_1 s m #[Value.ref b] below meth c s.heap [] 0 0 (lw_Z below #[Value.ref b] s) (entryFrame m ([Value.ref b] : List Value).toArray 14) := by
  obtain ⟨hx, hb, hr, hml, hown, hts, hX, hbl, hlocks, hgv⟩ := id C0
  obtain ⟨n, w2, hrun⟩ := hrun
  have kn : ∀ c, c < 6 → ∃ (cC : ClassId) (iS : Nat → Nat), u_Kn s (x_cn c) (x_T c) (x_fn c) cC iS := by
    intro c hc
    have hi : ∃ w ∈ lw_tbl, w = Cond.instantiable (x_cn c) (x_fn c) := by
      rcases (show c = 0 ∨ c = 1 ∨ c = 2 ∨ c = 3 ∨ c = 4 ∨ c = 5 by omega) with rfl | rfl | rfl | rfl | rfl | rfl <;> exact ⟨_, by decide +kernel, rfl⟩
    obtain ⟨wd, hw, e⟩ := hi
    exact u_known (n := x_fn c) hts (x_lays c hc) (by rw [← e]; exact hts _ hw)
  obtain ⟨dC, dI, hKc⟩ : ∃ (dC : Nat → ClassId) (dI : Nat → Nat → Nat), ∀ c, c < 6 → u_Kn s (x_cn c) (x_T c) (x_fn c) (dC c) (dI c) := by
    refine ⟨fun c => if h : c < 6 then Classical.choose (kn c h) else 0, fun c => if h : c < 6 then Classical.choose (Classical.choose_spec (kn c h)) else fun _ => 0, fun c hc => ?_⟩
    show u_Kn s (x_cn c) (x_T c) (x_fn c) (if h : c < 6 then Classical.choose (kn c h) else 0) (if h : c < 6 then Classical.choose (Classical.choose_spec (kn c h)) else fun _ => 0)
    rw [dif_pos hc, dif_pos hc]
    exact Classical.choose_spec (Classical.choose_spec (kn c hc))
  have hK : xKn (dC, dI) s := by
    refine ⟨fun c q hq => ?_, va_AO.of (A := #[Value.ref b]) (hts _ (x_w x_mnaok.2.2.2.2.2)), hts _ (x_w x_mnaok.2.1), trivial⟩
    have hc : c < 6 := (List.getElem?_eq_some_iff.mp hq).1
    have h2 := x_cls c hc
    rw [hq] at h2
    cases h2
    exact hKc c hc
  have hgw : ∀ w ∈ x_gw, w.before #[Value.ref b] s = true := fun w hw => hts w (List.mem_filter.mp hw).1
  have hCx : xCx p room_1 s m #[Value.ref b] meth c (dC, dI) (fun q : Nat => s.heap.size ≤ q) s.heap m_law := ⟨hx, hb, hml, hown, hgw, fun z => absurd z (by decide +kernel), (by unfold m_rm; rw [if_pos rfl]), fun _ h => h, hK, Nat.le_refl _⟩
  have hl := lv_entry ([.ref b]) (n := 14) (Nat.le_of_ble_eq_true rfl)
  rw [lg_entry_eq]
  generalize (lg_sl ([.ref b]) ++ List.replicate (14 - (lg_sl ([.ref b])).length) Slot.unset).toArray = als at hl ⊢
  have hl : lv_has als (m_ml m_law) (xl (fun _ => b) [.ref x_scr, x_no, x_no, x_no, x_no, x_no, x_no, x_no, x_no, x_no, x_no, x_no, x_no, x_no]) := hl
  have K := snd l n (p := p) (e := e) (below := below) (Qf := lw_Z below #[Value.ref b] s) (ρ0 := fun _ => b) (κ0 := fun _ => 0) hrun (Nat.le_refl _) rfl hCx (by
    intro ρ' κ' H locs als2 pc i st hd htp g1 g2 g3 g4 g5 g6
    rcases htp with ⟨rfl, rfl, e3, e4⟩ | ⟨v, ty, rfl, rfl, e3, e4, e5⟩ | ⟨v, rfl, rfl, e3, e4⟩
    · cases e3
    · cases e3
      have g5' : w2.1 - 0 ≤ 600 := g5
      refine va_forget (fun q hq => g6.2.2.1.2.2 q hq) ?_
      refine W.widen (k := 600000) (n := 7302250) (by omega) (by omega) ?_
      exact lw_ret hx hb hr hlocks hd
    · cases e3)
  exact K (fun _ => b) (fun _ => 0) s.heap [] als (Nat.le_refl _) (fun z => absurd z (by decide +kernel)) (fun _ _ => rfl) (fun _ _ => rfl) (Nat.zero_le _) ⟨fun k q h => by simp [wl, x_w0] at h, ⟨fun i j x z h => by simp [wl, x_w0] at h, fun k q h => by simp [wl, x_w0] at h⟩, va_S.rf, fun k t a h => absurd h (Nat.not_lt_zero _), fun k _ => rfl⟩ (fun _ => ⟨hbl, Nat.not_le.mpr hbl, hX⟩) hl
