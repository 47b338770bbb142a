/-! What the small machine's states mean on the machine of the claim -/
/-- references by number become addresses -/
def cv (ρ : Nat → Nat) (v : Value) : Value := match v with
  | .ref k => .ref (ρ k)
  | v => v
theorem cv_cat (ρ : Nat → Nat) (v : Value) : (cv ρ v).category = v.category := by cases v <;> rfl
theorem cv_rf (ρ : Nat → Nat) (o : Option Nat) : va_rf (o.map ρ) = cv ρ (va_rf o) := by cases o <;> rfl
def ce (ρ : Nat → Nat) (cA : ClassId) (c : xC) : va_E := match c with
  | .inl (_, n, .inl f) => .inl (cA, n, .inl f)
  | .inl (_, n, .inr (.inl f)) => .inl (cA, n, .inr (.inl f))
  | .inl (_, n, .inr (.inr (.inl f))) => .inl (cA, n, .inr (.inr (.inl f)))
  | .inl (_, n, .inr (.inr (.inr (.inl f)))) => .inl (cA, n, .inr (.inr (.inr (.inl f))))
  | .inl (_, n, .inr (.inr (.inr (.inr f)))) => .inl (cA, n, .inr (.inr (.inr (.inr (fun j => (f j).map ρ)))))
  | .inr (ci, fs) => .inr (ci, fs.map (cv ρ))
def wl (ρ κ : Nat → Nat) (w : xW) : va_W := (List.range w.1).map (fun k => (ρ k, ce ρ (κ k) (w.2.1 k)))
theorem wl_get {ρ κ : Nat → Nat} {w : xW} {k : Nat} (h : k < w.1) : (wl ρ κ w)[k]? = some (ρ k, ce ρ (κ k) (w.2.1 k)) := by
  unfold wl
  rw [List.getElem?_map, List.getElem?_range h]
  rfl
theorem wl_inv {ρ κ : Nat → Nat} {w : xW} {k : Nat} {q : Nat × va_E} (h : (wl ρ κ w)[k]? = some q) : k < w.1 ∧ q = (ρ k, ce ρ (κ k) (w.2.1 k)) := by
  have hk : k < w.1 := by
    have := (List.getElem?_eq_some_iff.mp h).1
    simpa [wl] using this
  refine ⟨hk, ?_⟩
  rw [wl_get hk] at h
  exact (Option.some.inj h).symm
theorem wl_set {ρ κ : Nat → Nat} {w : xW} {a : Nat} {c : xC} : (wl ρ κ w).set a (ρ a, ce ρ (κ a) c) = wl ρ κ (wr w a c) := by
  apply List.ext_getElem?
  intro k
  by_cases hk : k < w.1
  · have h2 : (wl ρ κ (wr w a c))[k]? = some (ρ k, ce ρ (κ k) ((wr w a c).2.1 k)) := wl_get (w := wr w a c) hk
    rw [h2]
    by_cases e : k = a
    · subst e
      rw [List.getElem?_set_self (by simpa [wl] using hk)]
      simp [wr]
    · rw [List.getElem?_set_ne (Ne.symm e), wl_get hk]
      simp [wr, e]
  · have h1 : (wl ρ κ w).length = w.1 := by simp [wl]
    have h2 : (wl ρ κ (wr w a c)).length = w.1 := by simp [wl, wr]
    rw [List.getElem?_eq_none (by rw [List.length_set, h1]; omega), List.getElem?_eq_none (by rw [h2]; omega)]
theorem cv_same {ρ ρ' : Nat → Nat} {n : Nat} {v : Value} (h : x_wfv n v = true) (e : ∀ k, k < n ∨ k = x_scr → ρ' k = ρ k) : cv ρ' v = cv ρ v := by
  cases v with
  | ref k =>
    simp only [x_wfv, Bool.or_eq_true, decide_eq_true_eq, beq_iff_eq] at h
    show Value.ref _ = Value.ref _
    rw [e k h]
  | _ => rfl
theorem cvs_same {ρ ρ' : Nat → Nat} {n : Nat} {l : List Value} (h : l.all (x_wfv n) = true) (e : ∀ k, k < n ∨ k = x_scr → ρ' k = ρ k) : l.map (cv ρ') = l.map (cv ρ) := by
  apply List.map_congr_left
  intro v hv
  exact cv_same (List.all_eq_true.mp h v hv) e
theorem ce_same {ρ ρ' : Nat → Nat} {n : Nat} {cA : ClassId} {c : xC} (h : x_wfc n c = true) (e : ∀ k, k < n ∨ k = x_scr → ρ' k = ρ k) : vp_cell cA = vp_cell cA ∧ (∀ D cl H a, va_at D cl (a, ce ρ cA c) H → va_at D cl (a, ce ρ' cA c) H) := by
  refine ⟨rfl, ?_⟩
  intro D cl H a h1
  rcases c with ⟨t, len, f | f | f | f | f⟩ | ⟨ci, fs⟩
  · exact h1
  · exact h1
  · exact h1
  · exact h1
  · show H[a]? = some (vp_cell _ _)
    have h2 : H[a]? = some (vp_cell cA (len, .inr (.inr (.inr (.inr (fun j => (f j).map ρ)))))) := h1
    rw [h2, vp_cell_q, vp_cell_q]
    congr 1
    have hf : ∀ j, j < len → (f j).map ρ = (f j).map ρ' := by
      intro j hj
      have := List.all_eq_true.mp h j (List.mem_range.mpr hj)
      cases hfj : f j with
      | none => rfl
      | some k =>
        rw [hfj] at this
        simp only [decide_eq_true_eq] at this
        show some (ρ k) = some (ρ' k)
        rw [e k (Or.inl this)]
    unfold arrV
    congr 1
    apply Array.ext
    · simp
    · intro j h3 h4
      simp only [Array.size_ofFn] at h3
      simp only [Array.getElem_ofFn, hf j h3]
  · obtain ⟨r, g1, g2⟩ := h1
    have : fs.map (cv ρ') = fs.map (cv ρ) := cvs_same h e
    refine ⟨r, g1, ?_⟩
    show t_OB _ _ _ _ _ (vp_V (fs.map (cv ρ')))
    rw [this]
    exact g2
def tyc (t : Nat) : FieldType := match t with
  | 0 => .int
  | 1 => .long
  | 2 => .char
  | 3 => .object "WeighingDesign$Design"
  | _ => .array .long
theorem va_AOA.moved {t : FieldType} {u U : State} (hvm : u.vm.Alike U.vm) (h : va_AOA t u) : va_AOA t U := by
  obtain ⟨comp, c, k, h1, h2, h3, h4, h5⟩ := arrayOverA_spec h
  obtain ⟨k', hk', he⟩ := hvm.2.2 _ _ h3
  have hi : (U.vm.classes.findIdx? fun (x : Class) => match x.kind with | .array component _ => component == comp | _ => false) = some c := by
    rw [hvm.findIdx?_eq _ (fun _ => rfl)]
    exact h2
  have hkind : k'.kind = .array comp (.array t) := by rw [he]; exact h4
  have f1 : U.vm.findClass (FieldType.array t).toString = some comp := by rw [hvm.findClass]; exact h1
  have f2 : U.vm.findClass ("[" ++ (FieldType.array t).toString) = some c := by rw [hvm.findClass]; exact h5
  unfold va_AOA Cond.before Cond.holds
  simp only [Cond.value]
  rw [f1, Option.bind_some]
  refine (congrArg (fun o : Option Nat => (o.bind (fun c => (U.vm.classes[c]?).map fun (k : Class) => match k.kind with | .array _ ty => decide (ty = FieldType.array t) && decide (U.vm.findClass ("[" ++ (FieldType.array t).toString) = some c) | _ => false) == some true)) hi).trans ?_
  simp [hk', hkind, f2]
def xKn (D : va_G) (s : State) : Prop := (∀ (c : Nat) (q : vw_C), vwCl[c]? = some q → u_Kn s q.1 q.2.1 q.2.2 (D.1 c) (D.2 c)) ∧ va_AO "WeighingDesign$Design" s ∧ va_AOA .long s ∧ True
def xTy (κ : Nat → Nat) (w : xW) (s : State) : Prop := ∀ (k t : Nat) (a : vp_A), k < w.1 → w.2.1 k = .inl (t, a) → ArrOfT s (κ k) (tyc t) ∧ va_RA s (κ k) (tyc t)
theorem xKn.warm {D : va_G} {u U : State} (hW : u.WarmedH U.vm) (h : xKn D u) : xKn D U := ⟨fun c q hq => u_Kn_moved hW.alike (h.1 c q hq), h.2.1.moved hW.alike, h.2.2.1.moved hW.alike, trivial⟩
theorem xKn.same {D : va_G} {u U : State} (hv : u.vm = U.vm) (h : xKn D u) : xKn D U := ⟨fun c q hq => u_Kn_moved (hv ▸ Vm.Alike.refl _) (h.1 c q hq), h.2.1.moved (hv ▸ Vm.Alike.refl _), h.2.2.1.moved (hv ▸ Vm.Alike.refl _), trivial⟩
theorem xTy.moved {κ : Nat → Nat} {w : xW} {u U : State} (hvm : u.vm.Alike U.vm) (h : xTy κ w u) : xTy κ w U := fun k t a hk ha => ⟨arrOfT_moved hvm (h k t a hk ha).1, (h k t a hk ha).2.moved hvm⟩
theorem xK1 {D : va_G} {κ : Nat → Nat} {w : xW} {s : State} (hK : xKn D s) (hT : xTy κ w s) {k t : Nat} {a : vp_A} (hk : k < w.1) (ha : w.2.1 k = .inl (t, a)) : va_K D vwCl [(κ k, tyc t)] s := by
  refine ⟨hK.1, fun j q hj => ?_⟩
  have hz : j < 1 := (List.getElem?_eq_some_iff.mp hj).1
  rw [show j = 0 by omega] at hj
  cases hj
  exact hT k t a hk ha
theorem xK0 {D : va_G} {s : State} (hK : xKn D s) : va_K D vwCl [] s := ⟨hK.1, fun j q hj => by simp at hj⟩
def x_dead (w : xW) : Prop := ∀ k, w.1 ≤ k → w.2.1 k = .inr (99, [])
def xRel (ρ κ : Nat → Nat) (D : va_G) (A : Nat → Prop) (H0 H : Heap) (locs : List Loc) (s : State) (w : xW) : Prop := va_P D vwCl (wl ρ κ w) H ∧ va_D A (wl ρ κ w) ∧ va_S A H0 H locs ∧ xTy κ w s ∧ x_dead w
/-- the locals that hold values -/
def x_loc : Nat → List Value → List (Nat × Value)
  | _, [] => []
  | i, v :: l => match v with
    | .retAddr _ => x_loc (i + 1) l
    | v => (i, v) :: x_loc (i + 1) l
def xl (ρ : Nat → Nat) (ls : List Value) : List (Nat × Value) := (x_loc 0 ls).map (fun q => (q.1, cv ρ q.2))
theorem x_loc_mem : ∀ (l : List Value) (i : Nat) (q : Nat × Value), q ∈ x_loc i l ↔ (i ≤ q.1 ∧ l[q.1 - i]? = some q.2 ∧ ∀ k, q.2 ≠ .retAddr k)
  | [], i, q => by simp [x_loc]
  | v :: l, i, q => by
    have ih := x_loc_mem l (i + 1) q
    have key : ∀ (u : Value), (i ≤ q.1 ∧ (u :: l)[q.1 - i]? = some q.2 ∧ ∀ k, q.2 ≠ .retAddr k) ↔ ((q = (i, u) ∧ ∀ k, q.2 ≠ .retAddr k) ∨ (i + 1 ≤ q.1 ∧ l[q.1 - (i + 1)]? = some q.2 ∧ ∀ k, q.2 ≠ .retAddr k)) := by
      intro u
      by_cases h : q.1 = i
      · constructor
        · rintro ⟨h1, h2, h3⟩
          rw [show q.1 - i = 0 by omega, List.getElem?_cons_zero] at h2
          exact Or.inl ⟨Prod.ext h (Option.some.inj h2).symm, h3⟩
        · rintro (⟨h1, h3⟩ | ⟨h1, -, -⟩)
          · refine ⟨by omega, ?_, h3⟩
            rw [show q.1 - i = 0 by omega, List.getElem?_cons_zero, h1]
          · omega
      · constructor
        · rintro ⟨h1, h2, h3⟩
          refine Or.inr ⟨by omega, ?_, h3⟩
          rw [show q.1 - i = (q.1 - (i + 1)) + 1 by omega, List.getElem?_cons_succ] at h2
          exact h2
        · rintro (⟨h1, h3⟩ | ⟨h1, h2, h3⟩)
          · exact absurd (by rw [h1]) h
          · refine ⟨by omega, ?_, h3⟩
            rw [show q.1 - i = (q.1 - (i + 1)) + 1 by omega, List.getElem?_cons_succ]
            exact h2
    rw [key v, ← ih]
    cases v with
    | retAddr k =>
      show q ∈ x_loc (i + 1) l ↔ _
      constructor
      · exact fun h => Or.inr h
      · rintro (⟨h1, h3⟩ | h)
        · exact absurd (by rw [h1]) (h3 k)
        · exact h
    | _ =>
      show q ∈ _ :: x_loc (i + 1) l ↔ _
      rw [List.mem_cons]
      constructor
      · rintro (h | h)
        · exact Or.inl ⟨h, fun k hk => by rw [h] at hk; cases hk⟩
        · exact Or.inr h
      · rintro (⟨h, -⟩ | h)
        · exact Or.inl h
        · exact Or.inr h
theorem xl_mem {ρ : Nat → Nat} {ls : List Value} {q : Nat × Value} : q ∈ xl ρ ls ↔ ∃ v, ls[q.1]? = some v ∧ (∀ k, v ≠ .retAddr k) ∧ q.2 = cv ρ v := by
  unfold xl
  rw [List.mem_map]
  constructor
  · rintro ⟨z, hz, rfl⟩
    obtain ⟨-, h2, h3⟩ := (x_loc_mem ls 0 z).mp hz
    exact ⟨z.2, h2, h3, rfl⟩
  · rintro ⟨v, h1, h2, h3⟩
    exact ⟨(q.1, v), (x_loc_mem ls 0 (q.1, v)).mpr ⟨Nat.zero_le _, h1, h2⟩, Prod.ext rfl h3.symm⟩
theorem lv_mono {als : Array Slot} {n : Nat} {l l' : List (Nat × Value)} (h : lv_has als n l) (hs : ∀ q ∈ l', q ∈ l) : lv_has als n l' := ⟨h.1, h.2.1, fun q hq => h.2.2 q (hs q hq)⟩
theorem xl_get {ρ : Nat → Nat} {ls : List Value} {als : Array Slot} {n k : Nat} {v : Value} (h : lv_has als n (xl ρ ls)) (hv : ls[k]? = some v) (hn : ∀ k, v ≠ .retAddr k) : als[k]? = some (.val (cv ρ v)) :=
  h.2.2 (k, cv ρ v) (xl_mem.mpr ⟨v, hv, hn, rfl⟩)
/-- what is left of the locals when a place of one slot is written -/
theorem xl_st1 {ρ : Nat → Nat} {ls : List Value} {k : Nat} {v : Value} (hk : x_ok ls k = true) {q : Nat × Value} (hq : q ∈ xl ρ (ls.set k v)) : q ∈ (k, cv ρ v) :: (xl ρ ls).filter (fun q => !(q.1 == k) && !(q.1 + 1 == k && q.2.category == 2)) := by
  obtain ⟨u, h1, h2, h3⟩ := xl_mem.mp hq
  by_cases e : q.1 = k
  · rw [e] at h1
    have hl : k < ls.length := by
      have := (List.getElem?_eq_some_iff.mp h1).1
      simpa using this
    rw [List.getElem?_set_self hl] at h1
    cases h1
    exact List.mem_cons.mpr (Or.inl (Prod.ext e h3))
  · rw [List.getElem?_set_ne (Ne.symm e)] at h1
    refine List.mem_cons_of_mem _ (List.mem_filter.mpr ⟨xl_mem.mpr ⟨u, h1, h2, h3⟩, ?_⟩)
    have e1 : (q.1 == k) = false := by simpa using e
    have e2 : (q.1 + 1 == k && q.2.category == 2) = false := by
      by_cases e3 : q.1 + 1 = k
      · subst e3
        unfold x_ok at hk
        simp only [h1, decide_eq_true_eq] at hk
        rw [h3, cv_cat, hk]
        simp
      · simp [e3]
    rw [e1, e2]
    rfl
theorem xl_st2 {ρ : Nat → Nat} {ls : List Value} {k : Nat} {x : Int64} (hk : x_ok ls k = true) {q : Nat × Value} (hq : q ∈ xl ρ ((ls.set k (.long x)).set (k + 1) x_no)) : q ∈ (k, Value.long x) :: (xl ρ ls).filter (fun q => !(q.1 == k) && (!(q.1 == k + 1) && !(q.1 + 1 == k && q.2.category == 2))) := by
  obtain ⟨u, h1, h2, h3⟩ := xl_mem.mp hq
  have e4 : q.1 ≠ k + 1 := by
    intro e4
    rw [e4] at h1
    have hl : k + 1 < (ls.set k (.long x)).length := by
      have := (List.getElem?_eq_some_iff.mp h1).1
      simpa using this
    rw [List.getElem?_set_self hl] at h1
    cases h1
    exact h2 0 rfl
  rw [List.getElem?_set_ne (Ne.symm e4)] at h1
  have hq1 : q ∈ xl ρ (ls.set k (.long x)) := xl_mem.mpr ⟨u, h1, h2, h3⟩
  rcases List.mem_cons.mp (xl_st1 hk hq1) with h | h
  · exact List.mem_cons.mpr (Or.inl h)
  · refine List.mem_cons_of_mem _ (List.mem_filter.mpr ⟨(List.mem_filter.mp h).1, ?_⟩)
    have h5 := (List.mem_filter.mp h).2
    have e5 : (q.1 == k + 1) = false := by simpa using e4
    rw [e5]
    simpa using h5
theorem x_args_loc : ∀ (vs : List Value) (i n : Nat) (q : Nat × Value), q ∈ x_loc i (x_args vs ++ List.replicate n x_no) → q ∈ lv_args i vs
  | [], i, 0, q, h => by simp [x_args, x_loc] at h
  | [], i, n + 1, q, h => by
    have h' : q ∈ x_loc i (x_no :: List.replicate n x_no) := h
    exact x_args_loc [] (i + 1) n q h' |> fun z => by simp [lv_args] at z
  | v :: vs, i, n, q, h => by
    cases v with
    | long x =>
      have h' : q ∈ (i, Value.long x) :: x_loc (i + 2) (x_args vs ++ List.replicate n x_no) := h
      show q ∈ (i, Value.long x) :: lv_args (i + 2) vs
      rcases List.mem_cons.mp h' with h1 | h1
      · exact List.mem_cons.mpr (Or.inl h1)
      · exact List.mem_cons_of_mem _ (x_args_loc vs (i + 2) n q h1)
    | double x =>
      have h' : q ∈ x_loc (i + 2) (x_args vs ++ List.replicate n x_no) := h
      show q ∈ (i, Value.double x) :: lv_args (i + 2) vs
      exact List.mem_cons_of_mem _ (x_args_loc vs (i + 2) n q h')
    | retAddr x =>
      have h' : q ∈ x_loc (i + 1) (x_args vs ++ List.replicate n x_no) := h
      show q ∈ (i, Value.retAddr x) :: lv_args (i + 1) vs
      exact List.mem_cons_of_mem _ (x_args_loc vs (i + 1) n q h')
    | _ =>
      have h' : q ∈ (i, _) :: x_loc (i + 1) (x_args vs ++ List.replicate n x_no) := h
      show q ∈ (i, _) :: lv_args (i + 1) vs
      rcases List.mem_cons.mp h' with h1 | h1
      · exact List.mem_cons.mpr (Or.inl h1)
      · exact List.mem_cons_of_mem _ (x_args_loc vs (i + 1) n q h1)
theorem x_args_map (ρ : Nat → Nat) : ∀ (vs : List Value) (i : Nat), lv_args i (vs.map (cv ρ)) = (lv_args i vs).map (fun q => (q.1, cv ρ q.2))
  | [], i => rfl
  | v :: vs, i => by
    show (i, cv ρ v) :: lv_args (if (cv ρ v).category = 2 then i + 2 else i + 1) (vs.map (cv ρ)) = (i, cv ρ v) :: (lv_args (if v.category = 2 then i + 2 else i + 1) vs).map _
    rw [cv_cat, x_args_map ρ vs]
theorem x_args_len : ∀ (vs : List Value), (x_args vs).length = xlen_args vs
  | [] => rfl
  | v :: vs => by
    have ih := x_args_len vs
    have e : xlen_args (v :: vs) = v.category + xlen_args vs := by simp [xlen_args]
    rw [e, ← ih]
    cases v <;> simp [x_args, Value.category] <;> omega
theorem lg_sl_len (ρ : Nat → Nat) : ∀ (vs : List Value), (lg_sl (vs.map (cv ρ))).length = xlen_args vs
  | [] => rfl
  | v :: vs => by
    have ih := lg_sl_len ρ vs
    have e : xlen_args (v :: vs) = v.category + xlen_args vs := by simp [xlen_args]
    rw [e, ← ih]
    simp only [lg_sl, List.map_cons, List.flatMap_cons, List.length_append]
    congr 1
    rw [cv_cat]
    rcases lv_cat v with h | h <;> simp [h]
/-- a method's first locals, on both machines -/
theorem xl_ent {ρ : Nat → Nat} {vs : List Value} {n : Nat} (h : xlen_args vs ≤ n) : lv_has ((lg_sl (vs.map (cv ρ)) ++ List.replicate (n - (lg_sl (vs.map (cv ρ))).length) Slot.unset).toArray) n (xl ρ (x_ent vs n)) := by
  have h1 := lv_entry (vs.map (cv ρ)) (n := n) (by rw [lg_sl_len]; exact h)
  refine lv_mono h1 fun q hq => ?_
  unfold xl x_ent at hq
  obtain ⟨z, hz, rfl⟩ := List.mem_map.mp hq
  rw [x_args_map]
  exact List.mem_map.mpr ⟨z, x_args_loc vs 0 _ z hz, rfl⟩
/-! the room and the tables of a method -/
theorem m_rm_ok (y : Nat) (hy : y ≤ m_law) : m_dp y ≤ (m_rm y).frames ∧ 36 * m_dp y ≤ (m_rm y).locals ∧ m_mc y ≤ (m_rm y).cells ∧ 600 * m_mc y ≤ (m_rm y).slots := by
  unfold m_rm
  by_cases h : y = m_law
  · subst h
    exact ⟨by decide +kernel, by decide +kernel, by decide +kernel, by decide +kernel⟩
  · rw [if_neg h]
    exact ⟨Nat.le_refl _, Nat.le_refl _, Nat.le_refl _, Nat.le_refl _⟩
theorem x_find_mem : ∀ (l : List (Nat × Nat × Nat × Nat)) {c i : Nat} {r : Nat × Nat}, x_find l c i = some r → (c, i, r.1, r.2) ∈ l
  | [], c, i, r, h => by simp [x_find] at h
  | (c1, i1, a, b) :: l, c, i, r, h => by
    unfold x_find at h
    by_cases e : c1 = c ∧ i1 = i
    · rw [if_pos e] at h
      obtain ⟨rfl, rfl⟩ := e
      cases h
      exact List.mem_cons_self
    · rw [if_neg e] at h
      exact List.mem_cons_of_mem _ (x_find_mem l h)
theorem x_cfind_mem : ∀ (l : List (Nat × Nat × Value)) {c i : Nat} {r : Value}, x_cfind l c i = some r → (c, i, r) ∈ l
  | [], c, i, r, h => by simp [x_cfind] at h
  | (c1, i1, a) :: l, c, i, r, h => by
    unfold x_cfind at h
    by_cases e : c1 = c ∧ i1 = i
    · rw [if_pos e] at h
      obtain ⟨rfl, rfl⟩ := e
      cases h
      exact List.mem_cons_self
    · rw [if_neg e] at h
      exact List.mem_cons_of_mem _ (x_cfind_mem l h)
theorem x_gwI {w : Cond} (h : w ∈ lw_tbl) (g : goodWord w = true) : w ∈ x_gw := List.mem_filter.mpr ⟨h, g⟩
theorem x_ml_ok {c i k t : Nat} (h : x_ml c i = some (k, t)) : ∃ p, x_mok (c, i, k, t) p := x_mls_ok _ (x_find_mem _ h)
theorem x_fl_ok {c i ci k : Nat} (h : x_fl c i = some (ci, k)) : Cond.fieldLink (x_cn c) i (x_T ci k).1 (x_T ci k).2.1 (x_T ci k).2.2.1 ∈ x_gw ∧ ci < 6 ∧ k < x_fn ci := by
  have h1 := x_find_mem _ h
  rw [x_fzl] at h1
  obtain ⟨z, hz, e⟩ := List.mem_map.mp h1
  have h2 := List.all_eq_true.mp x_fok z hz
  simp only [x_fckB, Bool.and_eq_true, decide_eq_true_eq] at h2
  rw [e] at h2
  exact ⟨x_gwI (x_w h2.1.1) rfl, h2.1.2, h2.2⟩
theorem x_nl_ok {c i ci k : Nat} (h : x_nl c i = some (ci, k)) : Cond.classLink (x_cn c) i (x_cn ci) ∈ x_gw ∧ Cond.instantiable (x_cn ci) (x_fn ci) ∈ x_gw ∧ Cond.initialized (x_cn ci) ∈ x_gw ∧ ci < 6 := by
  have h1 := x_find_mem _ h
  rw [x_nzl] at h1
  obtain ⟨z, hz, e⟩ := List.mem_map.mp h1
  have h2 := List.all_eq_true.mp x_nok z hz
  simp only [x_nckB, Bool.and_eq_true, decide_eq_true_eq] at h2
  rw [e] at h2
  exact ⟨x_gwI (x_w h2.1.1.1) rfl, x_gwI (x_w h2.1.1.2) rfl, x_gwI (x_w h2.1.2) rfl, h2.2⟩
theorem x_cs_int {c i : Nat} {v : Int32} (h : x_cs c i = some (.int v)) : Cond.constant (x_cn c) i v ∈ x_gw := by
  have h1 := x_cfind_mem _ h
  rw [x_czl] at h1
  obtain ⟨z, hz, e⟩ := List.mem_map.mp h1
  have h2 := List.all_eq_true.mp x_cok z hz
  unfold x_cckB at h2
  rw [e] at h2
  exact x_gwI (x_w (of_decide_eq_true h2)) rfl
theorem x_cs_long {c i : Nat} {v : Int64} (h : x_cs c i = some (.long v)) : Cond.constantLong (x_cn c) i v ∈ x_gw := by
  have h1 := x_cfind_mem _ h
  rw [x_czl] at h1
  obtain ⟨z, hz, e⟩ := List.mem_map.mp h1
  have h2 := List.all_eq_true.mp x_cok z hz
  unfold x_cckB at h2
  rw [e] at h2
  exact x_gwI (x_w (of_decide_eq_true h2)) rfl
theorem x_layG : ∀ c, c < 6 → ∀ w ∈ u_ws (x_cn c) (x_T c) (x_fn c), w ∈ x_gw := by
  intro c hc w hw
  refine x_gwI (x_lays c hc w hw) ?_
  obtain ⟨k, -, rfl⟩ := List.mem_map.mp hw
  unfold u_lay
  split <;> rfl
