/-! Chains: both sides come to the same -/
theorem x_or32 : ∀ a, a < 32 → ∀ b, b < 32 → nI a ||| nI b = nI (a ||| b) ∧ a ||| b < 32 ∧ (nI a &&& nI b = 0 ↔ a &&& b = 0) := by decide +kernel
theorem x_tb : ∀ a, a < 32 → ∀ z, z < 5 → ((nI a >>> (nI z &&& 31) &&& 1 = 1) ↔ a.testBit z = true) := by decide +kernel
theorem x_an : ∀ a, a < 32 → ∀ b, b < 32 → ((¬ a &&& b = 0) ↔ ∃ z, z < 5 ∧ a.testBit z = true ∧ b.testBit z = true) := by decide +kernel
theorem x_pc : ∀ c, c < 32 → bcF (nI c) = foldN (fun a z => a + bI (c.testBit z = true)) 5 0 0 := by decide +kernel
theorem anyN_iff {P : Nat → Bool} : ∀ (k i : Nat), anyN P k i = true ↔ ∃ j, i ≤ j ∧ j < i + k ∧ P j = true
  | 0, i => by
    constructor
    · intro h
      exact absurd h (by simp [anyN])
    · rintro ⟨j, h1, h2, -⟩
      omega
  | k + 1, i => by
    show (P i || anyN P k (i + 1)) = true ↔ _
    rw [Bool.or_eq_true, anyN_iff k (i + 1)]
    constructor
    · rintro (h | ⟨j, h1, h2, h3⟩)
      · exact ⟨i, Nat.le_refl _, by omega, h⟩
      · exact ⟨j, by omega, by omega, h3⟩
    · rintro ⟨j, h1, h2, h3⟩
      by_cases c : j = i
      · subst c
        exact Or.inl h3
      · exact Or.inr ⟨j, by omega, by omega, h3⟩
/-- masses reached by one link more, as a number -/
def olG (P : Nat → Nat) (x : Nat) (a j : Nat) : Nat := if P j &&& x = 0 then a else a ||| P j
def olN (n : Nat) (P : Nat → Nat) (x : Nat) : Nat := foldN (olG P x) n 0 x
def reN (n : Nat) (P : Nat → Nat) : Nat → Nat
  | 0 => 1
  | s + 1 => olN n P (reN n P s)
theorem ol_32 {n : Nat} {P : Nat → Nat} {x : Nat} (hP : ∀ j, j < n → P j < 32) : ∀ (k i a : Nat), i + k = n → a < 32 → foldN (olG P x) k i a < 32
  | 0, _, _, _, h => h
  | k + 1, i, a, hi, h => by
    refine ol_32 hP k (i + 1) _ (by omega) ?_
    unfold olG
    split
    · exact h
    · exact (x_or32 a h (P i) (hP i (by omega))).2.1
theorem re_32 {n : Nat} {P : Nat → Nat} (hP : ∀ j, j < n → P j < 32) : ∀ s, reN n P s < 32
  | 0 => (show (1 : Nat) < 32 by decide)
  | s + 1 => ol_32 hP n 0 _ (by omega) (re_32 hP s)
theorem ol_tb {P : Nat → Nat} {x z : Nat} : ∀ (k i a : Nat), (foldN (olG P x) k i a).testBit z = true ↔ (a.testBit z = true ∨ ∃ j, i ≤ j ∧ j < i + k ∧ (¬ P j &&& x = 0) ∧ (P j).testBit z = true)
  | 0, i, a => by
    constructor
    · exact fun h => Or.inl h
    · rintro (h | ⟨j, h1, h2, -⟩)
      · exact h
      · omega
  | k + 1, i, a => by
    show (foldN (olG P x) k (i + 1) (olG P x a i)).testBit z = true ↔ _
    rw [ol_tb k (i + 1)]
    have e : (olG P x a i).testBit z = true ↔ (a.testBit z = true ∨ ((¬ P i &&& x = 0) ∧ (P i).testBit z = true)) := by
      unfold olG
      by_cases c : P i &&& x = 0
      · rw [if_pos c]
        exact ⟨Or.inl, fun h => h.elim id (fun q => absurd c q.1)⟩
      · rw [if_neg c, Nat.testBit_or, Bool.or_eq_true]
        exact ⟨fun h => h.elim Or.inl (fun q => Or.inr ⟨c, q⟩), fun h => h.elim Or.inl (fun q => Or.inr q.2)⟩
    rw [e]
    constructor
    · rintro ((h | h) | ⟨j, h1, h2, h3⟩)
      · exact Or.inl h
      · exact Or.inr ⟨i, Nat.le_refl _, by omega, h⟩
      · exact Or.inr ⟨j, by omega, by omega, h3⟩
    · rintro (h | ⟨j, h1, h2, h3⟩)
      · exact Or.inl (Or.inl h)
      · by_cases c : j = i
        · subst c
          exact Or.inl (Or.inr h3)
        · exact Or.inr ⟨j, by omega, by omega, h3⟩
section CH
variable {d : Nat → Int32} {n : Nat} {P : Nat → Nat}
theorem re_up {z s : Nat} (h : (reN n P s).testBit z = true) : (reN n P (s + 1)).testBit z = true := (ol_tb n 0 _).mpr (Or.inl h)
theorem re_le {z s : Nat} (h : (reN n P s).testBit z = true) : ∀ k, (reN n P (s + k)).testBit z = true
  | 0 => h
  | k + 1 => re_up (re_le h k)
theorem re_st {z s j : Nat} (hj : j < n) (h : ¬ P j &&& reN n P s = 0) (hz : (P j).testBit z = true) : (reN n P (s + 1)).testBit z = true := (ol_tb n 0 _).mpr (Or.inr ⟨j, by omega, by omega, h, hz⟩)
/-- a row's masses as a number -/
def maP (d : Nat → Int32) (n : Nat) (P : Nat → Nat) : Prop := ∀ j, j < n → P j < 32 ∧ pnN d j = nI (P j)
/-- a row touches what is s links away -/
abbrev tou (d : Nat → Int32) (s : Nat) (f : Nat → Int32) (j : Nat) : Prop := anyN (tcN (pnN d j) s f) 5 0 = true
theorem tou_iff (hP : maP d n P) {s j : Nat} {f : Nat → Int32} (hj : j < n) : tou d s f j ↔ ∃ y, y < 5 ∧ (P j).testBit y = true ∧ f y = nI s := by
  obtain ⟨h1, h2⟩ := hP j hj
  unfold tou
  rw [anyN_iff]
  constructor
  · rintro ⟨y, -, hy, h⟩
    unfold tcN at h
    rw [Bool.and_eq_true, decide_eq_true_eq, decide_eq_true_eq, h2] at h
    exact ⟨y, by omega, (x_tb _ h1 y (by omega)).mp h.1, h.2⟩
  · rintro ⟨y, hy, h, h3⟩
    refine ⟨y, Nat.zero_le _, by omega, ?_⟩
    unfold tcN
    rw [Bool.and_eq_true, decide_eq_true_eq, decide_eq_true_eq, h2]
    exact ⟨(x_tb _ h1 y hy).mpr h, h3⟩
theorem nI_s1 {s : Nat} (hs : s ≤ 900) : ¬ nI (s + 1) = nI s := fun q => by
  have := (nI_eq' (by omega) (by omega)).mp q
  omega
theorem ch_fold (hP : maP d n P) {s : Nat} (hs : s ≤ 900) : ∀ (k i : Nat) (f : Nat → Int32), i + k = n → ∀ z, z < 5 → (¬ f z = -1 → foldN (chR d s) k i f z = f z) ∧ (f z = -1 → (∃ j, i ≤ j ∧ j < n ∧ tou d s f j ∧ (P j).testBit z = true) → foldN (chR d s) k i f z = nI (s + 1)) ∧ (f z = -1 → ¬ (∃ j, i ≤ j ∧ j < n ∧ tou d s f j ∧ (P j).testBit z = true) → foldN (chR d s) k i f z = -1)
  | 0, i, f, hi, z, hz => ⟨fun _ => rfl, fun _ ⟨j, h1, h2, _⟩ => by omega, fun h _ => h⟩
  | k + 1, i, f, hi, z, hz => by
    obtain ⟨m1, m2⟩ := hP i (by omega)
    have n1 : ¬ nI (s + 1) = -1 := nI_m1 (by omega)
    have n2 : ¬ nI s = -1 := nI_m1 (by omega)
    have gd : ∀ y, chR d s f i y = if tou d s f i ∧ y < 5 ∧ pnN d i >>> (nI y &&& 31) &&& 1 = 1 ∧ f y = -1 then nI (s + 1) else f y := fun y => rfl
    have gt : ∀ y, y < 5 → (chR d s f i y = nI s ↔ f y = nI s) := by
      intro y hy
      rw [gd y]
      by_cases c : tou d s f i ∧ y < 5 ∧ pnN d i >>> (nI y &&& 31) &&& 1 = 1 ∧ f y = -1
      · rw [if_pos c, c.2.2.2]
        exact ⟨fun q => absurd q (nI_s1 hs), fun q => absurd q.symm n2⟩
      · rw [if_neg c]
    have tt : ∀ j, j < n → (tou d s (chR d s f i) j ↔ tou d s f j) := by
      intro j hj
      rw [tou_iff hP hj, tou_iff hP hj]
      constructor
      · rintro ⟨y, hy, h1, h2⟩
        exact ⟨y, hy, h1, (gt y hy).mp h2⟩
      · rintro ⟨y, hy, h1, h2⟩
        exact ⟨y, hy, h1, (gt y hy).mpr h2⟩
    have bz : (pnN d i >>> (nI z &&& 31) &&& 1 = 1) ↔ (P i).testBit z = true := by
      rw [m2]
      exact x_tb _ m1 z hz
    obtain ⟨a1, a2, a3⟩ := ch_fold hP hs k (i + 1) (chR d s f i) (by omega) z hz
    refine ⟨fun h => ?_, fun h hx => ?_, fun h hx => ?_⟩
    · have e : chR d s f i z = f z := by
        rw [gd z, if_neg (fun q => h q.2.2.2)]
      exact (a1 (by rw [e]; exact h)).trans e
    · by_cases c : tou d s f i ∧ (P i).testBit z = true
      · have e : chR d s f i z = nI (s + 1) := by
          rw [gd z, if_pos ⟨c.1, hz, bz.mpr c.2, h⟩]
        exact (a1 (by rw [e]; exact n1)).trans e
      · have e : chR d s f i z = -1 := by
          rw [gd z, if_neg (fun q => c ⟨q.1, bz.mp q.2.2.1⟩)]
          exact h
        obtain ⟨j, h1, h2, h3, h4⟩ := hx
        have : j ≠ i := fun q => c ⟨by rw [← q]; exact h3, by rw [← q]; exact h4⟩
        exact a2 e ⟨j, by omega, h2, (tt j h2).mpr h3, h4⟩
    · have e : chR d s f i z = -1 := by
        rw [gd z, if_neg (fun q => hx ⟨i, Nat.le_refl _, by omega, q.1, bz.mp q.2.2.1⟩)]
        exact h
      exact a3 e (fun ⟨j, h1, h2, h3, h4⟩ => hx ⟨j, by omega, h2, (tt j h2).mp h3, h4⟩)
/-- after s steps -/
def inC (n : Nat) (P : Nat → Nat) (s : Nat) (f : Nat → Int32) : Prop := ∀ z, z < 5 → (f z = -1 ∧ ¬ (reN n P s).testBit z = true) ∨ ∃ t, t ≤ s ∧ f z = nI t ∧ (reN n P t).testBit z = true ∧ ∀ u, u < t → ¬ (reN n P u).testBit z = true
theorem inC_st (hP : maP d n P) {s : Nat} (hs : s ≤ 900) {f : Nat → Int32} (I : inC n P s f) : inC n P (s + 1) (foldN (chR d s) n 0 f) := by
  have hP' : ∀ j, j < n → P j < 32 := fun j hj => (hP j hj).1
  intro z hz
  obtain ⟨a1, a2, a3⟩ := ch_fold hP hs n 0 f (by omega) z hz
  rcases I z hz with ⟨h1, h2⟩ | ⟨t, h1, h2, h3, h4⟩
  · by_cases c : ∃ j, 0 ≤ j ∧ j < n ∧ tou d s f j ∧ (P j).testBit z = true
    · refine Or.inr ⟨s + 1, Nat.le_refl _, a2 h1 c, ?_, fun u hu q => h2 ?_⟩
      · obtain ⟨j, -, hj, h3, h4⟩ := c
        obtain ⟨y, hy, h5, h6⟩ := (tou_iff hP hj).mp h3
        have hr : (reN n P s).testBit y = true := by
          rcases I y hy with ⟨q1, -⟩ | ⟨t, q1, q2, q3, -⟩
          · rw [h6] at q1
            exact absurd q1 (nI_m1 (by omega))
          · rw [h6] at q2
            rw [(nI_eq' (by omega) (by omega)).mp q2]
            exact q3
        exact re_st hj ((x_an _ (hP' j hj) _ (re_32 hP' s)).mpr ⟨y, hy, h5, hr⟩) h4
      · have := re_le q (s - u)
        rw [show u + (s - u) = s by omega] at this
        exact this
    · refine Or.inl ⟨a3 h1 c, fun q => c ?_⟩
      rcases (ol_tb n 0 _).mp q with q | ⟨j, -, hj, q1, q2⟩
      · exact absurd q h2
      · have hj : j < n := by omega
        obtain ⟨y, hy, q3, q4⟩ := (x_an _ (hP' j hj) _ (re_32 hP' s)).mp q1
        refine ⟨j, Nat.zero_le _, hj, (tou_iff hP hj).mpr ⟨y, hy, q3, ?_⟩, q2⟩
        rcases I y hy with ⟨-, r2⟩ | ⟨t, r1, r2, r3, -⟩
        · exact absurd q4 r2
        · by_cases e : t = s
          · rw [← e]
            exact r2
          · have u1 := re_st hj ((x_an _ (hP' j hj) _ (re_32 hP' t)).mpr ⟨y, hy, q3, r3⟩) q2
            have u2 := re_le u1 (s - (t + 1))
            rw [show t + 1 + (s - (t + 1)) = s by omega] at u2
            exact absurd u2 h2
  · exact Or.inr ⟨t, by omega, (a1 (by rw [h2]; exact nI_m1 (by omega))).trans h2, h3, h4⟩
theorem inC_S (hP : maP d n P) : ∀ (k s : Nat) (f : Nat → Int32), s + k ≤ 900 → inC n P s f → inC n P (s + k) (chS d n k s f)
  | 0, _, _, _, I => I
  | k + 1, s, f, h, I => by
    have := inC_S hP k (s + 1) _ (by omega) (inC_st hP (by omega) I)
    rw [show s + (k + 1) = s + 1 + k by omega]
    exact this
theorem inC_0 : inC n P 0 ch0 := by
  intro z hz
  rcases (show z = 0 ∨ z = 1 ∨ z = 2 ∨ z = 3 ∨ z = 4 by omega) with rfl | rfl | rfl | rfl | rfl
  · exact Or.inr ⟨0, Nat.le_refl _, rfl, (show (1 : Nat).testBit 0 = true by decide), fun u hu => absurd hu (Nat.not_lt_zero _)⟩
  · exact Or.inl ⟨rfl, (show ¬ (1 : Nat).testBit 1 = true by decide)⟩
  · exact Or.inl ⟨rfl, (show ¬ (1 : Nat).testBit 2 = true by decide)⟩
  · exact Or.inl ⟨rfl, (show ¬ (1 : Nat).testBit 3 = true by decide)⟩
  · exact Or.inl ⟨rfl, (show ¬ (1 : Nat).testBit 4 = true by decide)⟩
theorem inC_4 (hP : maP d n P) : inC n P 4 (faF d n) := inC_S hP 4 0 _ (by omega) inC_0
/-! the class' side -/
theorem ol_F (v : vM d n) (hP : maP d n P) {x : Nat} (hx : x < 32) : olF n (lD d) (rD d) (tD d) (nI x) = nI (olN n P x) := by
  have G : ∀ (k i a : Nat), i + k = n → a < 32 → foldN (fun a j => if tD d j ≤ 0 then a else if (lD d j ||| rD d j) &&& nI x = 0 then a else a ||| (lD d j ||| rD d j)) k i (nI a) = nI (foldN (olG P x) k i a) := by
    intro k
    induction k with
    | zero => intro i a _ _; rfl
    | succ k ih =>
      intro i a hi ha
      obtain ⟨m1, m2⟩ := hP i (by omega)
      have e : (if tD d i ≤ 0 then nI a else if (lD d i ||| rD d i) &&& nI x = 0 then nI a else nI a ||| (lD d i ||| rD d i)) = nI (olG P x a i) := by
        unfold olG
        by_cases c : tD d i ≤ 0
        · have c' := (x_tz v.2 (show i < n by omega)).mpr c
          have ep : P i = 0 := by
            unfold pnN at m2
            rw [if_pos c'] at m2
            exact ((nI_eq' (b := P i) (a := 0) (by omega) (by omega)).mp m2).symm
          rw [if_pos c, ep, Nat.zero_and, if_pos rfl]
        · have c' : ¬ tD d i = 0 := fun q => c ((x_tz v.2 (show i < n by omega)).mp q)
          unfold pnN at m2
          rw [if_neg c'] at m2
          rw [if_neg c, m2]
          obtain ⟨b1, b2, b3⟩ := x_or32 (P i) m1 x hx
          obtain ⟨d1, -, -⟩ := x_or32 a ha (P i) m1
          by_cases c2 : P i &&& x = 0
          · rw [if_pos (b3.mpr c2), if_pos c2]
          · rw [if_neg (fun q => c2 (b3.mp q)), if_neg c2, d1]
      show foldN _ k (i + 1) (if tD d i ≤ 0 then nI a else if (lD d i ||| rD d i) &&& nI x = 0 then nI a else nI a ||| (lD d i ||| rD d i)) = nI (foldN (olG P x) k (i + 1) (olG P x a i))
      rw [e]
      refine ih (i + 1) _ (by omega) ?_
      unfold olG
      split
      · exact ha
      · exact (x_or32 a ha (P i) m1).2.1
  exact G n 0 x (by omega) hx
theorem lk_t (v : vM d n) (hP : maP d n P) {z t : Nat} (hz : z < 5) (ht : t ≤ 4) (h1 : (reN n P t).testBit z = true) (h2 : ∀ u, u < t → ¬ (reN n P u).testBit z = true) : ∀ (k i : Nat), i + k = 5 → i ≤ t → lkF n (lD d) (rD d) (tD d) (nI z) k i (nI (reN n P i)) = nI t := by
  have hP' : ∀ j, j < n → P j < 32 := fun j hj => (hP j hj).1
  intro k
  induction k with
  | zero => intro i hi hit; omega
  | succ k ih =>
    intro i hi hit
    show (if nI (reN n P i) >>> (nI z &&& 31) &&& 1 = 1 then nI i else lkF n (lD d) (rD d) (tD d) (nI z) k (i + 1) (olF n (lD d) (rD d) (tD d) (nI (reN n P i)))) = nI t
    have e := x_tb _ (re_32 hP' i) z hz
    by_cases c : i = t
    · subst c
      rw [if_pos (e.mpr h1)]
    · rw [if_neg (fun q => h2 i (by omega) (e.mp q)), ol_F v hP (re_32 hP' i)]
      exact ih (i + 1) (by omega) (by omega)
theorem lk_n (v : vM d n) (hP : maP d n P) {z : Nat} (hz : z < 5) (h : ¬ (reN n P 4).testBit z = true) : ∀ (k i : Nat), i + k = 5 → lkF n (lD d) (rD d) (tD d) (nI z) k i (nI (reN n P i)) = -1 := by
  have hP' : ∀ j, j < n → P j < 32 := fun j hj => (hP j hj).1
  intro k
  induction k with
  | zero => intro i hi; rfl
  | succ k ih =>
    intro i hi
    show (if nI (reN n P i) >>> (nI z &&& 31) &&& 1 = 1 then nI i else lkF n (lD d) (rD d) (tD d) (nI z) k (i + 1) (olF n (lD d) (rD d) (tD d) (nI (reN n P i)))) = -1
    have e := x_tb _ (re_32 hP' i) z hz
    rw [if_neg (fun q => h (by
      have := re_le (e.mp q) (4 - i)
      rw [show i + (4 - i) = 4 by omega] at this
      exact this)), ol_F v hP (re_32 hP' i)]
    exact ih (i + 1) (by omega)
/-- the rows' masses are masks -/
def vS (n : Nat) (lf rf : Nat → Int32) : Prop := ∀ j, j < n → ∃ a c, a < 32 ∧ c < 32 ∧ lf j = nI a ∧ rf j = nI c
theorem maP_of (h : vS n (lD d) (rD d)) : maP d n (fun j => (pnN d j).toNatClampNeg) := by
  intro j hj
  obtain ⟨a, c, ha, hc, e1, e2⟩ := h j hj
  have e : ∃ z, z < 32 ∧ pnN d j = nI z := by
    unfold pnN
    by_cases q : tD d j = 0
    · rw [if_pos q]
      exact ⟨0, by decide, rfl⟩
    · rw [if_neg q, e1, e2]
      obtain ⟨b1, b2, -⟩ := x_or32 a ha c hc
      exact ⟨_, b2, b1⟩
  obtain ⟨z, hz, ez⟩ := e
  show (pnN d j).toNatClampNeg < 32 ∧ pnN d j = nI (pnN d j).toNatClampNeg
  rw [ez, cl_nI (by omega)]
  exact ⟨hz, rfl⟩
theorem fa_lk (v : vM d n) (h : vS n (lD d) (rD d)) {z : Nat} (hz : z < 5) : faF d n z = lkF n (lD d) (rD d) (tD d) (nI z) 5 0 1 := by
  have hP := maP_of h
  rcases inC_4 hP z hz with ⟨h1, h2⟩ | ⟨t, h1, h2, h3, h4⟩
  · rw [h1]
    exact (lk_n v hP hz h2 5 0 (by omega)).symm
  · rw [h2]
    exact (lk_t v hP hz h1 h3 h4 5 0 (by omega) (Nat.zero_le _)).symm
theorem fa_bc (v : vM d n) (h : vS n (lD d) (rD d)) : bcF (ol4 (dOf n d)) = foldN (fun a z => a + bI (¬ faF d n z = -1)) 5 0 0 := by
  have hP := maP_of h
  have hP' : ∀ j, j < n → (pnN d j).toNatClampNeg < 32 := fun j hj => (hP j hj).1
  have e : ol4 (dOf n d) = nI (reN n (fun j => (pnN d j).toNatClampNeg) 4) := by
    show olF n (lD d) (rD d) (tD d) (olF n (lD d) (rD d) (tD d) (olF n (lD d) (rD d) (tD d) (olF n (lD d) (rD d) (tD d) (nI (reN n (fun j => (pnN d j).toNatClampNeg) 0))))) = _
    rw [ol_F v hP (re_32 hP' 0)]
    show olF n (lD d) (rD d) (tD d) (olF n (lD d) (rD d) (tD d) (olF n (lD d) (rD d) (tD d) (nI (reN n (fun j => (pnN d j).toNatClampNeg) 1)))) = _
    rw [ol_F v hP (re_32 hP' 1)]
    show olF n (lD d) (rD d) (tD d) (olF n (lD d) (rD d) (tD d) (nI (reN n (fun j => (pnN d j).toNatClampNeg) 2))) = _
    rw [ol_F v hP (re_32 hP' 2)]
    show olF n (lD d) (rD d) (tD d) (nI (reN n (fun j => (pnN d j).toNatClampNeg) 3)) = _
    rw [ol_F v hP (re_32 hP' 3)]
    rfl
  rw [e, x_pc _ (re_32 hP' 4)]
  refine foldN_congr 5 0 _ (fun a z _ hz => ?_)
  have : bI ((reN n (fun j => (pnN d j).toNatClampNeg) 4).testBit z = true) = bI (¬ faF d n z = -1) := bI_congr (by
    rcases inC_4 hP z (by omega) with ⟨h1, h2⟩ | ⟨t, h1, h2, h3, h4⟩
    · exact ⟨fun q => absurd q h2, fun q => absurd h1 q⟩
    · refine ⟨fun _ => by rw [h2]; exact nI_m1 (by omega), fun _ => ?_⟩
      have := re_le h3 (4 - t)
      rw [show t + (4 - t) = 4 by omega] at this
      exact this)
  rw [this]
end CH
