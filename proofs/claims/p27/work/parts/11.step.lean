/-! One instruction at a time: what a run of the small machine is, in front of it and behind it -/
def x_gF (c : xC) (ci k : Nat) (K : Value → Prop) : Prop := ∃ fs v, c = .inr (ci, fs) ∧ fs[k]? = some v ∧ K v
def x_pF (c : xC) (ci k : Nat) (v : Value) (K : xC → Prop) : Prop := ∃ fs, c = .inr (ci, fs) ∧ k < fs.length ∧ K (.inr (ci, fs.set k v))
def x_aI (c : xC) (t : Nat) (i : Int32) (K : Int32 → Prop) : Prop := ∃ n f, c = .inl (t, n, .inl f) ∧ x_in i n ∧ K (f i.toNatClampNeg)
def x_aL (c : xC) (i : Int32) (K : Int64 → Prop) : Prop := ∃ n f, c = .inl (1, n, .inr (.inl f)) ∧ x_in i n ∧ K (f i.toNatClampNeg)
def x_aA (c : xC) (i : Int32) (K : Nat → Prop) : Prop := ∃ t n f q, c = .inl (t, n, .inr (.inr (.inr (.inr f)))) ∧ (t = 3 ∨ t = 4) ∧ x_in i n ∧ f i.toNatClampNeg = some q ∧ K q
def x_sI (c : xC) (t : Nat) (i x : Int32) (K : xC → Prop) : Prop := ∃ n f, c = .inl (t, n, .inl f) ∧ x_in i n ∧ K (.inl (t, n, .inl (upd f i.toNatClampNeg x)))
def x_sL (c : xC) (i : Int32) (x : Int64) (K : xC → Prop) : Prop := ∃ n f, c = .inl (1, n, .inr (.inl f)) ∧ x_in i n ∧ K (.inl (1, n, .inr (.inl (vp_updL f i.toNatClampNeg x))))
def x_sA (c d : xC) (i : Int32) (x : Nat) (K : xC → Prop) : Prop := ∃ n f fs, c = .inl (3, n, .inr (.inr (.inr (.inr f)))) ∧ x_in i n ∧ d = .inr (0, fs) ∧ K (.inl (3, n, .inr (.inr (.inr (.inr (va_up f i.toNatClampNeg (some x)))))))
def x_isO (c : xC) (ci : Nat) : Prop := ∃ fs, c = .inr (ci, fs)
section XQ
variable {y b pc idx ci k t : Nat} {ls S : List Value} {w : xW} {Q : Option Value → xW → Prop}
theorem Wp_getf {a : Nat} (hd : decode (m_bc y) pc = .ok (.getfield idx, 3)) (hf : x_fl (m_cl y) idx = some (ci, k)) : Wp y b pc ls (.ref a :: S) w Q ↔ x_gF (rd w a) ci k (fun v => Wp y b (pc + 3) ls (v :: S) w Q) := by
  have hs : xs y b pc (.getfield idx) ls (.ref a :: S) w = x_getf ci k pc ls (.ref a :: S) w := by
    simp only [xs, hf]
  by_cases h : ∃ fs v, rd w a = .inr (ci, fs) ∧ fs[k]? = some v
  · obtain ⟨fs, v, h1, h2⟩ := h
    rw [Wp_go (pc1 := pc + 3) (ls1 := ls) (st1 := v :: S) (w1 := w) hd (by rw [hs]; simp only [x_getf, h1, h2, x_go, if_true])]
    constructor
    · exact fun q => ⟨fs, v, h1, h2, q⟩
    · rintro ⟨fs', v', g1, g2, q⟩
      rw [h1] at g1
      cases g1
      rw [h2] at g2
      cases g2
      exact q
  · rw [Wp_none hd (by
      rw [hs]
      simp only [x_getf]
      split
      · rename_i c' fs h1
        split
        · rename_i hc
          subst hc
          split
          · rename_i v h2
            exact absurd ⟨fs, v, h1, h2⟩ h
          · rfl
        · rfl
      · rfl)]
    constructor
    · exact fun q => q.elim
    · rintro ⟨fs, v, h1, h2, -⟩
      exact h ⟨fs, v, h1, h2⟩
theorem Wp_putf {a kd : Nat} {v : Value} (hd : decode (m_bc y) pc = .ok (.putfield idx, 3)) (hf : x_fl (m_cl y) idx = some (ci, k)) (hk : (x_fk ci)[k]? = some (kd, false)) (hv : x_kok kd v = true) : Wp y b pc ls (v :: .ref a :: S) w Q ↔ x_pF (rd w a) ci k v (fun c => Wp y b (pc + 3) ls S (wr w a c) Q) := by
  have hs : xs y b pc (.putfield idx) ls (v :: .ref a :: S) w = x_putf y ci k pc ls (v :: .ref a :: S) w := by
    simp only [xs, hf]
  by_cases h : ∃ fs, rd w a = .inr (ci, fs) ∧ k < fs.length
  · obtain ⟨fs, h1, h2⟩ := h
    rw [Wp_go (pc1 := pc + 3) (ls1 := ls) (st1 := S) (w1 := wr w a (.inr (ci, fs.set k v))) hd (by rw [hs]; simp [x_putf, h1, h2, hk, hv, x_go])]
    constructor
    · exact fun q => ⟨fs, h1, h2, q⟩
    · rintro ⟨fs', g1, g2, q⟩
      rw [h1] at g1
      cases g1
      exact q
  · rw [Wp_none hd (by
      rw [hs]
      simp only [x_putf]
      split
      · rename_i c' fs h1
        split
        · rename_i hc
          obtain ⟨hc, h2⟩ := hc
          subst hc
          exact absurd ⟨fs, h1, h2⟩ h
        · rfl
      · rfl)]
    constructor
    · exact fun q => q.elim
    · rintro ⟨fs, h1, h2, -⟩
      exact h ⟨fs, h1, h2⟩
theorem Wp_iaload {a : Nat} {i : Int32} (hd : decode (m_bc y) pc = .ok (.iaload, 1)) (hy : ¬ m_sc y = true) : Wp y b pc ls (.int i :: .ref a :: S) w Q ↔ x_aI (rd w a) 0 i (fun v => Wp y b (pc + 1) ls (.int v :: S) w Q) := by
  by_cases h : ∃ n f, rd w a = .inl (0, n, .inl f) ∧ x_in i n
  · obtain ⟨n, f, h1, h2⟩ := h
    rw [Wp_go (i := .iaload) (pc1 := pc + 1) (ls1 := ls) (st1 := .int (f i.toNatClampNeg) :: S) (w1 := w) hd (by simp [xs, x_iald, h1, h2, hy, x_go])]
    constructor
    · exact fun q => ⟨n, f, h1, h2, q⟩
    · rintro ⟨n', f', g1, g2, q⟩
      rw [h1] at g1
      cases g1
      exact q
  · rw [Wp_none (i := .iaload) hd (by
      simp only [xs, x_iald, if_neg hy]
      split
      · rename_i t n f h1
        split
        · rename_i hc
          obtain ⟨hc, h2⟩ := hc
          subst hc
          exact absurd ⟨n, f, h1, h2⟩ h
        · rfl
      · rfl)]
    constructor
    · exact fun q => q.elim
    · rintro ⟨n, f, h1, h2, -⟩
      exact h ⟨n, f, h1, h2⟩
theorem Wp_caload {a : Nat} {i : Int32} (hd : decode (m_bc y) pc = .ok (.caload, 1)) : Wp y b pc ls (.int i :: .ref a :: S) w Q ↔ x_aI (rd w a) 2 i (fun v => Wp y b (pc + 1) ls (.int v :: S) w Q) := by
  by_cases h : ∃ n f, rd w a = .inl (2, n, .inl f) ∧ x_in i n
  · obtain ⟨n, f, h1, h2⟩ := h
    rw [Wp_go (i := .caload) (pc1 := pc + 1) (ls1 := ls) (st1 := .int (f i.toNatClampNeg) :: S) (w1 := w) hd (by simp [xs, x_cald, h1, h2, x_go])]
    constructor
    · exact fun q => ⟨n, f, h1, h2, q⟩
    · rintro ⟨n', f', g1, g2, q⟩
      rw [h1] at g1
      cases g1
      exact q
  · rw [Wp_none (i := .caload) hd (by
      simp only [xs, x_cald]
      split
      · rename_i t n f h1
        split
        · rename_i hc
          obtain ⟨hc, h2⟩ := hc
          subst hc
          exact absurd ⟨n, f, h1, h2⟩ h
        · rfl
      · rfl)]
    constructor
    · exact fun q => q.elim
    · rintro ⟨n, f, h1, h2, -⟩
      exact h ⟨n, f, h1, h2⟩
theorem Wp_laload {a : Nat} {i : Int32} (hd : decode (m_bc y) pc = .ok (.laload, 1)) : Wp y b pc ls (.int i :: .ref a :: S) w Q ↔ x_aL (rd w a) i (fun v => Wp y b (pc + 1) ls (.long v :: S) w Q) := by
  by_cases h : ∃ n f, rd w a = .inl (1, n, .inr (.inl f)) ∧ x_in i n
  · obtain ⟨n, f, h1, h2⟩ := h
    rw [Wp_go (i := .laload) (pc1 := pc + 1) (ls1 := ls) (st1 := .long (f i.toNatClampNeg) :: S) (w1 := w) hd (by simp [xs, x_lald, h1, h2, x_go])]
    constructor
    · exact fun q => ⟨n, f, h1, h2, q⟩
    · rintro ⟨n', f', g1, g2, q⟩
      rw [h1] at g1
      cases g1
      exact q
  · rw [Wp_none (i := .laload) hd (by
      simp only [xs, x_lald]
      split
      · rename_i t n f h1
        split
        · rename_i hc
          obtain ⟨hc, h2⟩ := hc
          subst hc
          exact absurd ⟨n, f, h1, h2⟩ h
        · rfl
      · rfl)]
    constructor
    · exact fun q => q.elim
    · rintro ⟨n, f, h1, h2, -⟩
      exact h ⟨n, f, h1, h2⟩
theorem Wp_aaload {a : Nat} {i : Int32} (hd : decode (m_bc y) pc = .ok (.aaload, 1)) : Wp y b pc ls (.int i :: .ref a :: S) w Q ↔ x_aA (rd w a) i (fun v => Wp y b (pc + 1) ls (.ref v :: S) w Q) := by
  by_cases h : ∃ t n f q, rd w a = .inl (t, n, .inr (.inr (.inr (.inr f)))) ∧ (t = 3 ∨ t = 4) ∧ x_in i n ∧ f i.toNatClampNeg = some q
  · obtain ⟨t, n, f, q, h1, h2, h3, h4⟩ := h
    rw [Wp_go (i := .aaload) (pc1 := pc + 1) (ls1 := ls) (st1 := .ref q :: S) (w1 := w) hd (by simp [xs, x_aald, h1, h2, h3, h4, x_go])]
    constructor
    · exact fun z => ⟨t, n, f, q, h1, h2, h3, h4, z⟩
    · rintro ⟨t', n', f', q', g1, g2, g3, g4, z⟩
      rw [h1] at g1
      cases g1
      rw [h4] at g4
      cases g4
      exact z
  · rw [Wp_none (i := .aaload) hd (by
      simp only [xs, x_aald]
      split
      · rename_i t n f h1
        split
        · rename_i hc
          split
          · rename_i q h4
            exact absurd ⟨t, n, f, q, h1, hc.1, hc.2, h4⟩ h
          · rfl
        · rfl
      · rfl)]
    constructor
    · exact fun q => q.elim
    · rintro ⟨t, n, f, q, h1, h2, h3, h4, -⟩
      exact h ⟨t, n, f, q, h1, h2, h3, h4⟩
theorem Wp_iastore {a : Nat} {i x : Int32} (hd : decode (m_bc y) pc = .ok (.iastore, 1)) : Wp y b pc ls (.int x :: .int i :: .ref a :: S) w Q ↔ x_sI (rd w a) 0 i x (fun c => Wp y b (pc + 1) ls S (wr w a c) Q) := by
  by_cases h : ∃ n f, rd w a = .inl (0, n, .inl f) ∧ x_in i n
  · obtain ⟨n, f, h1, h2⟩ := h
    rw [Wp_go (i := .iastore) (pc1 := pc + 1) (ls1 := ls) (st1 := S) (w1 := wr w a (.inl (0, n, .inl (upd f i.toNatClampNeg x)))) hd (by simp [xs, x_iast, h1, h2, x_go])]
    constructor
    · exact fun q => ⟨n, f, h1, h2, q⟩
    · rintro ⟨n', f', g1, g2, q⟩
      rw [h1] at g1
      cases g1
      exact q
  · rw [Wp_none (i := .iastore) hd (by
      simp only [xs, x_iast]
      split
      · rename_i t n f h1
        split
        · rename_i hc
          obtain ⟨hc, h2⟩ := hc
          subst hc
          exact absurd ⟨n, f, h1, h2⟩ h
        · rfl
      · rfl)]
    constructor
    · exact fun q => q.elim
    · rintro ⟨n, f, h1, h2, -⟩
      exact h ⟨n, f, h1, h2⟩
theorem Wp_castore {a : Nat} {i x : Int32} (hd : decode (m_bc y) pc = .ok (.castore, 1)) : Wp y b pc ls (.int x :: .int i :: .ref a :: S) w Q ↔ x_sI (rd w a) 2 i (vp_nar .char x) (fun c => Wp y b (pc + 1) ls S (wr w a c) Q) := by
  by_cases h : ∃ n f, rd w a = .inl (2, n, .inl f) ∧ x_in i n
  · obtain ⟨n, f, h1, h2⟩ := h
    rw [Wp_go (i := .castore) (pc1 := pc + 1) (ls1 := ls) (st1 := S) (w1 := wr w a (.inl (2, n, .inl (upd f i.toNatClampNeg (vp_nar .char x))))) hd (by simp [xs, x_cast, h1, h2, x_go])]
    constructor
    · exact fun q => ⟨n, f, h1, h2, q⟩
    · rintro ⟨n', f', g1, g2, q⟩
      rw [h1] at g1
      cases g1
      exact q
  · rw [Wp_none (i := .castore) hd (by
      simp only [xs, x_cast]
      split
      · rename_i t n f h1
        split
        · rename_i hc
          obtain ⟨hc, h2⟩ := hc
          subst hc
          exact absurd ⟨n, f, h1, h2⟩ h
        · rfl
      · rfl)]
    constructor
    · exact fun q => q.elim
    · rintro ⟨n, f, h1, h2, -⟩
      exact h ⟨n, f, h1, h2⟩
theorem Wp_lastore {a : Nat} {i : Int32} {x : Int64} (hd : decode (m_bc y) pc = .ok (.lastore, 1)) : Wp y b pc ls (.long x :: .int i :: .ref a :: S) w Q ↔ x_sL (rd w a) i x (fun c => Wp y b (pc + 1) ls S (wr w a c) Q) := by
  by_cases h : ∃ n f, rd w a = .inl (1, n, .inr (.inl f)) ∧ x_in i n
  · obtain ⟨n, f, h1, h2⟩ := h
    rw [Wp_go (i := .lastore) (pc1 := pc + 1) (ls1 := ls) (st1 := S) (w1 := wr w a (.inl (1, n, .inr (.inl (vp_updL f i.toNatClampNeg x))))) hd (by simp [xs, x_last, h1, h2, x_go])]
    constructor
    · exact fun q => ⟨n, f, h1, h2, q⟩
    · rintro ⟨n', f', g1, g2, q⟩
      rw [h1] at g1
      cases g1
      exact q
  · rw [Wp_none (i := .lastore) hd (by
      simp only [xs, x_last]
      split
      · rename_i t n f h1
        split
        · rename_i hc
          obtain ⟨hc, h2⟩ := hc
          subst hc
          exact absurd ⟨n, f, h1, h2⟩ h
        · rfl
      · rfl)]
    constructor
    · exact fun q => q.elim
    · rintro ⟨n, f, h1, h2, -⟩
      exact h ⟨n, f, h1, h2⟩
theorem Wp_aastore {a x : Nat} {i : Int32} (hd : decode (m_bc y) pc = .ok (.aastore, 1)) : Wp y b pc ls (.ref x :: .int i :: .ref a :: S) w Q ↔ x_sA (rd w a) (rd w x) i x (fun c => Wp y b (pc + 1) ls S (wr w a c) Q) := by
  by_cases h : ∃ n f fs, rd w a = .inl (3, n, .inr (.inr (.inr (.inr f)))) ∧ x_in i n ∧ rd w x = .inr (0, fs)
  · obtain ⟨n, f, fs, h1, h2, h3⟩ := h
    rw [Wp_go (i := .aastore) (pc1 := pc + 1) (ls1 := ls) (st1 := S) (w1 := wr w a (.inl (3, n, .inr (.inr (.inr (.inr (va_up f i.toNatClampNeg (some x)))))))) hd (by simp [xs, x_aast, h1, h2, h3, x_go])]
    constructor
    · exact fun q => ⟨n, f, fs, h1, h2, h3, q⟩
    · rintro ⟨n', f', fs', g1, g2, g3, q⟩
      rw [h1] at g1
      cases g1
      exact q
  · rw [Wp_none (i := .aastore) hd (by
      simp only [xs, x_aast]
      split
      · rename_i t n f h1
        split
        · rename_i hc
          obtain ⟨hc, h2⟩ := hc
          subst hc
          split
          · rename_i fs h3
            exact absurd ⟨n, f, fs, h1, h2, h3⟩ h
          · rfl
        · rfl
      · rfl)]
    constructor
    · exact fun q => q.elim
    · rintro ⟨n, f, fs, h1, h2, h3, -⟩
      exact h ⟨n, f, fs, h1, h2, h3⟩
theorem Wp_sald {a : Nat} {i : Int32} (hd : decode (m_bc y) pc = .ok (.iaload, 1)) (hy : m_sc y = true) : Wp y b pc ls (.int i :: .ref a :: S) w Q ↔ a = x_scr ∧ x_in i w.2.2.1 ∧ Wp y b (pc + 1) ls (.int (w.2.2.2 i.toNatClampNeg) :: S) w Q := by
  by_cases h : a = x_scr ∧ x_in i w.2.2.1
  · rw [Wp_go (i := .iaload) (pc1 := pc + 1) (ls1 := ls) (st1 := .int (w.2.2.2 i.toNatClampNeg) :: S) (w1 := w) hd (by simp [xs, x_iald, hy, h, x_go])]
    exact ⟨fun q => ⟨h.1, h.2, q⟩, fun q => q.2.2⟩
  · rw [Wp_none (i := .iaload) hd (by simp only [xs, x_iald, if_pos hy, if_neg h])]
    exact ⟨fun q => q.elim, fun q => h ⟨q.1, q.2.1⟩⟩
theorem Wp_slen {a : Nat} (hd : decode (m_bc y) pc = .ok (.arraylength, 1)) (hy : m_sc y = true) : Wp y b pc ls (.ref a :: S) w Q ↔ a = x_scr ∧ Wp y b (pc + 1) ls (.int (Int32.ofNat w.2.2.1) :: S) w Q := by
  by_cases h : a = x_scr
  · rw [Wp_go (i := .arraylength) (pc1 := pc + 1) (ls1 := ls) (st1 := .int (Int32.ofNat w.2.2.1) :: S) (w1 := w) hd (by simp [xs, x_alen, hy, h, x_go])]
    exact ⟨fun q => ⟨h, q⟩, fun q => q.2⟩
  · rw [Wp_none (i := .arraylength) hd (by simp [xs, x_alen, hy, h])]
    exact ⟨fun q => q.elim, fun q => h q.1⟩
theorem Wp_idiv {x z : Int32} (hd : decode (m_bc y) pc = .ok (.idiv, 1)) : Wp y b pc ls (.int z :: .int x :: S) w Q ↔ ¬ z = 0 ∧ Wp y b (pc + 1) ls (.int (x / z) :: S) w Q := by
  by_cases h : z = 0
  · rw [Wp_none (i := .idiv) hd (by simp [xs, h])]
    exact ⟨fun q => q.elim, fun q => q.1 h⟩
  · rw [Wp_go (i := .idiv) (pc1 := pc + 1) (ls1 := ls) (st1 := .int (x / z) :: S) (w1 := w) hd (by simp [xs, h, x_go])]
    exact ⟨fun q => ⟨h, q⟩, fun q => q.2⟩
theorem Wp_irem {x z : Int32} (hd : decode (m_bc y) pc = .ok (.irem, 1)) : Wp y b pc ls (.int z :: .int x :: S) w Q ↔ ¬ z = 0 ∧ Wp y b (pc + 1) ls (.int (x - x / z * z) :: S) w Q := by
  by_cases h : z = 0
  · rw [Wp_none (i := .irem) hd (by simp [xs, h])]
    exact ⟨fun q => q.elim, fun q => q.1 h⟩
  · rw [Wp_go (i := .irem) (pc1 := pc + 1) (ls1 := ls) (st1 := .int (x - x / z * z) :: S) (w1 := w) hd (by simp [xs, h, x_go])]
    exact ⟨fun q => ⟨h, q⟩, fun q => q.2⟩
theorem Wp_ldiv {x z : Int64} (hd : decode (m_bc y) pc = .ok (.ldiv, 1)) : Wp y b pc ls (.long z :: .long x :: S) w Q ↔ ¬ z = 0 ∧ Wp y b (pc + 1) ls (.long (x / z) :: S) w Q := by
  by_cases h : z = 0
  · rw [Wp_none (i := .ldiv) hd (by simp [xs, h])]
    exact ⟨fun q => q.elim, fun q => q.1 h⟩
  · rw [Wp_go (i := .ldiv) (pc1 := pc + 1) (ls1 := ls) (st1 := .long (x / z) :: S) (w1 := w) hd (by simp [xs, h, x_go])]
    exact ⟨fun q => ⟨h, q⟩, fun q => q.2⟩
theorem Wp_lrem {x z : Int64} (hd : decode (m_bc y) pc = .ok (.lrem, 1)) : Wp y b pc ls (.long z :: .long x :: S) w Q ↔ ¬ z = 0 ∧ Wp y b (pc + 1) ls (.long (x - x / z * z) :: S) w Q := by
  by_cases h : z = 0
  · rw [Wp_none (i := .lrem) hd (by simp [xs, h])]
    exact ⟨fun q => q.elim, fun q => q.1 h⟩
  · rw [Wp_go (i := .lrem) (pc1 := pc + 1) (ls1 := ls) (st1 := .long (x - x / z * z) :: S) (w1 := w) hd (by simp [xs, h, x_go])]
    exact ⟨fun q => ⟨h, q⟩, fun q => q.2⟩
theorem Wp_br {i : Instr} {st : List Value} {c : Prop} [Decidable c] {t f : Nat} (hd : decode (m_bc y) pc = .ok (i, xlen i)) (hs : xs y b pc i ls st w = some (.inl (bif decide c then t else f, ls, S, w))) : Wp y b pc ls st w Q ↔ (if c then Wp y b t ls S w Q else Wp y b f ls S w Q) := by
  rw [Wp_go hd hs]
  by_cases h : c
  · simp [h]
  · simp [h]
theorem Wp_swd {d lo hi : Int} {offs : Array Int} {len : Nat} {x : Int32} (hd : decode (m_bc y) pc = .ok (.tableswitch d lo hi offs, len)) (h : x.toInt < lo ∨ hi < x.toInt) (ht : x_jmp pc d = some t) : Wp y b pc ls (.int x :: S) w Q ↔ Wp y b t ls S w Q := Wp_sw hd (by unfold x_sw; rw [if_pos h]; exact ht)
theorem m_sc_cl {t : Nat} (h : m_cl t < 6) : m_sc t = false := by
  cases hm : m_sc t with
  | false => rfl
  | true =>
    simp only [m_sc, Bool.or_eq_true, beq_iff_eq] at hm
    rcases hm with ((rfl | rfl) | rfl) | rfl <;> exact absurd h (by decide)
theorem Wp_inv {a : Nat} {S2 As : List Value} (hd : decode (m_bc y) pc = .ok (.invokevirtual idx, 3)) (hl : x_ml (m_cl y) idx = some (0, t)) (h1 : (As.reverse ++ .ref a :: S).drop (m_np t) = .ref a :: S) (h2 : (As.reverse ++ .ref a :: S).take (m_np t) = As.reverse) (h3 : As.length = m_np t) (h4 : m_dp t < m_dp y) (h5 : t < m_law) (h6 : (S.map Value.category).sum ≤ 8) (h7 : xlen_args (.ref a :: As) ≤ m_ml t) (h8 : m_mc t = 0) (h9 : m_cl t < 6) (h10 : (Value.ref a :: As).length ≤ 9) (hS : As.reverse ++ .ref a :: S = S2) : Wp y b pc ls S2 w Q ↔ x_isO (rd w a) (m_cl t) ∧ Wp t w.1 0 (x_ent (.ref a :: As) (m_ml t)) [] w (fun o w => Wp y b (pc + 3) ls (rl o S) w Q) := by
  subst hS
  by_cases h : x_isO (rd w a) (m_cl t)
  · obtain ⟨fs, hfs⟩ := h
    have hs : xs y b pc (.invokevirtual idx) ls (As.reverse ++ .ref a :: S) w = some (.inr (.inr (t, .ref a :: As, S))) := by
      simp only [xs, x_invV, hl, h1, hfs, h2, List.length_reverse, h3, h9, and_self, if_true, List.reverse_reverse]
      unfold x_call
      rw [if_pos ⟨h4, ⟨h5, fun z => absurd (m_sc_cl h9) (by rw [z]; exact Bool.noConfusion)⟩, h10, h6, h7, Or.inl h8⟩]
    rw [Wp_call hd hs]
    exact ⟨fun q => ⟨⟨fs, hfs⟩, q⟩, fun q => q.2⟩
  · rw [Wp_none hd (by
      simp only [xs, x_invV, hl, h1]
      split
      · rename_i c fs hrd
        split
        · rename_i hc
          exact absurd ⟨fs, by rw [hrd, hc.1]⟩ h
        · rfl
      · rfl)]
    exact ⟨fun q => q.elim, fun q => h q.1⟩
theorem Wp_retz {x : Int32} (hd : decode (m_bc y) pc = .ok (.ireturn, 1)) (hr : m_rt y = some .boolean) (hm : m_mc y = 0 ∨ y = m_law) : Wp y b pc ls [.int x] w Q ↔ (x = 0 ∨ x = 1) ∧ Q (some (.int x)) w := by
  have hm2 : m_mc y = 0 ∨ y = m_law ∨ w.1 = b + m_mc y := hm.elim Or.inl (fun q => Or.inr (Or.inl q))
  by_cases h : x = 0 ∨ x = 1
  · rw [Wp_ret (i := .ireturn) (r := some (.int x)) hd (by simp only [xs, x_iret, hr, if_pos h, x_ret, if_pos hm2])]
    exact ⟨fun q => ⟨h, q⟩, fun q => q.2⟩
  · rw [Wp_none (i := .ireturn) hd (by simp only [xs, x_iret, hr, if_neg h])]
    exact ⟨fun q => q.elim, fun q => h q.1⟩
theorem Wp_retc {x : Int32} (hd : decode (m_bc y) pc = .ok (.ireturn, 1)) (hr : m_rt y = some .char) (hm : m_mc y = 0 ∨ y = m_law) : Wp y b pc ls [.int x] w Q ↔ vp_nar .char x = x ∧ Q (some (.int x)) w := by
  have hm2 : m_mc y = 0 ∨ y = m_law ∨ w.1 = b + m_mc y := hm.elim Or.inl (fun q => Or.inr (Or.inl q))
  by_cases h : vp_nar .char x = x
  · rw [Wp_ret (i := .ireturn) (r := some (.int x)) hd (by simp only [xs, x_iret, hr, if_pos h, x_ret, if_pos hm2])]
    exact ⟨fun q => ⟨h, q⟩, fun q => q.2⟩
  · rw [Wp_none (i := .ireturn) hd (by simp only [xs, x_iret, hr, if_neg h])]
    exact ⟨fun q => q.elim, fun q => h q.1⟩
theorem Wp_retm {x : Int32} (hd : decode (m_bc y) pc = .ok (.ireturn, 1)) (hr : m_rt y = some .boolean) (hm : w.1 = b + m_mc y) : Wp y b pc ls [.int x] w Q ↔ (x = 0 ∨ x = 1) ∧ Q (some (.int x)) w := by
  have hm2 : m_mc y = 0 ∨ y = m_law ∨ w.1 = b + m_mc y := Or.inr (Or.inr hm)
  by_cases h : x = 0 ∨ x = 1
  · rw [Wp_ret (i := .ireturn) (r := some (.int x)) hd (by simp only [xs, x_iret, hr, if_pos h, x_ret, if_pos hm2])]
    exact ⟨fun q => ⟨h, q⟩, fun q => q.2⟩
  · rw [Wp_none (i := .ireturn) hd (by simp only [xs, x_iret, hr, if_neg h])]
    exact ⟨fun q => q.elim, fun q => h q.1⟩
end XQ
