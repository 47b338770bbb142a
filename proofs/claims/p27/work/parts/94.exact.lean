/-! The law's exact: a new object, twelve rows, one reading each -/
section I1
variable {oo b U : Nat} {w0 w : xW} {d : DD} {k : Nat} {H : Nat → DD} {Q : Option Value → xW → Prop}
theorem i63 (I : sI oo w0 w d k H U) {r a : Int32} (K : ∀ w2, sI oo w0 w2 d k H U → Q (some (.int (rwA d U r a))) w2) : x_isO (rd w oo) 5 ∧ Wp 63 b 0 [.ref oo, .int r, .int a] [] w Q := a63 I.1 I.2.1 I.2.2.1.2.1 (fun w2 S2 => K w2 ⟨S2, I.2⟩)
theorem i66 (I : sI oo w0 w d k H U) {a : Int32} (K : ∀ w2, sI oo w0 w2 d k H U → Q (some (.int (cnA d k 0 U a))) w2) : x_isO (rd w oo) 5 ∧ Wp 66 b 0 [.ref oo, .int a] [] w Q := a66 I.1 I.2.1 I.2.2.1.2.1 (fun w2 S2 => K w2 ⟨S2, I.2⟩)
theorem i68 (I : sI oo w0 w d k H U) {a t : Int32} (K : ∀ w2, sI oo w0 w2 d k H U → Q (some (.long (vaA d U a t))) w2) : x_isO (rd w oo) 5 ∧ Wp 68 b 0 [.ref oo, .int a, .int t] [] w Q := a68 I.1 I.2.1 I.2.2.1.2.1 (fun w2 S2 => K w2 ⟨S2, I.2⟩)
theorem i69 (I : sI oo w0 w d k H U) {t : Int32} (K : ∀ w2, sI oo w0 w2 d k H U → Q (some (.long (paA d U t))) w2) : x_isO (rd w oo) 5 ∧ Wp 69 b 0 [.ref oo, .int t] [] w Q := a69 I.1 I.2.1 I.2.2.1.2.1 (fun w2 S2 => K w2 ⟨S2, I.2⟩)
theorem i70 (I : sI oo w0 w d k H U) {r q t : Int32} (K : ∀ w2, sI oo w0 w2 d k H U → Q (some (.long (reA d U r q t))) w2) : x_isO (rd w oo) 5 ∧ Wp 70 b 0 [.ref oo, .int r, .int q, .int t] [] w Q := a70 I.1 I.2.1 I.2.2.1.2.1 (fun w2 S2 => K w2 ⟨S2, I.2⟩)
theorem i72 (I : sI oo w0 w d k H U) {r t : Int32} (K : ∀ w2, sI oo w0 w2 d k H U → Q (some (.long (meA d r t))) w2) : x_isO (rd w oo) 5 ∧ Wp 72 b 0 [.ref oo, .int r, .int t] [] w Q := a72 I.1 I.2.1 (fun w2 S2 => K w2 ⟨S2, I.2⟩)
theorem i74 (I : sI oo w0 w d k H U) {r q a t : Int32} (K : ∀ w2, sI oo w0 w2 d k H U → Q (some (.long (wiA d U r q a t))) w2) : x_isO (rd w oo) 5 ∧ Wp 74 b 0 [.ref oo, .int r, .int q, .int a, .int t] [] w Q := a74 I.1 I.2.1 I.2.2.1.2.1 (fun w2 S2 => K w2 ⟨S2, I.2⟩)
theorem i76 (I : sI oo w0 w d k H U) {r t : Int32} (K : ∀ w2, sI oo w0 w2 d k H U → Q (some (.long (pbA d r t))) w2) : x_isO (rd w oo) 5 ∧ Wp 76 b 0 [.ref oo, .int r, .int t, x_no] [] w Q := a76 I.1 I.2.1 (fun w2 S2 => K w2 ⟨S2, I.2⟩)
theorem i93 (I : sI oo w0 w d k H U) (K : ∀ w2, sI oo w0 w2 d k H U → Q (some (.int 1)) w2) : Wp 93 b 0 [.ref oo, x_no, x_no, x_no, x_no, x_no, x_no] [] w Q := c93 I.1.2 I.2.1 I.2.2.1 I.2.2.2 (fun w2 f2 C2 => K w2 ⟨⟨I.1.1.tr f2, C2⟩, I.2⟩)
end I1
/-! the rows one by one -/
theorem ex_ok : ∀ n, n < 12 → okA (exL n) (exR n) := by decide +kernel
theorem ex_ne : ∀ n, n < 12 → ∀ j, j < n → ¬ (exL j = exL n ∧ exR j = exR n) := by decide +kernel
theorem ex_num : ∀ c, c < 4 → (3 * nI (c + 1) - 3 = nI (3 * c) ∧ 3 * nI (c + 1) - 2 = nI (3 * c + 1) ∧ 3 * nI (c + 1) - 1 = nI (3 * c + 2)) ∧ ((1 : Int32) <<< (nI (c + 1) &&& 31) = exL (3 * c) ∧ (1 : Int32) ||| (1 : Int32) <<< (nI (c + 1) &&& 31) = exL (3 * c + 1) ∧ (1 : Int32) = exL (3 * c + 2)) ∧ (1 : Int32) = exR (3 * c) ∧ (if c = 0 then (4 : Int32) else 2) = exR (3 * c + 1) ∧ (1 : Int32) <<< (nI (c + 1) &&& 31) = exR (3 * c + 2) := by decide +kernel
theorem exM_b {s f : Int32} {v : Nat → Int32} (B : exB s f v) (r : Nat) : -100000 ≤ (exM s f v r).toInt ∧ (exM s f v r).toInt ≤ 100000 := by
  have b1 := ex_b B (r / 3 + 1)
  have b2 := ex_b B (if r / 3 = 0 then 2 else 1)
  obtain ⟨c1, c2, c3⟩ := B
  have d1 := c3 (r / 3 + 1)
  have d2 := c3 (if r / 3 = 0 then 2 else 1)
  unfold exM
  split
  · rw [e_a b1.1 b1.2.1 b1.2.2]
    omega
  · split
    · rw [e_b b1.2.1 b1.1 b2.1 b1.2.2]
      omega
    · rw [e_a b1.2.1 b1.1 b1.2.2]
      omega
theorem i32_rg {x : Int32} (h : -100000 ≤ x.toInt ∧ x.toInt ≤ 100000) : -100000 ≤ x ∧ x ≤ 100000 := by
  rw [Int32.le_iff_toInt_le, Int32.le_iff_toInt_le, show (-100000 : Int32).toInt = -100000 from rfl, show (100000 : Int32).toInt = 100000 from rfl]
  exact h
theorem eq_ex {d : DD} {s p f : Int32} {v : Nat → Int32} {n : Nat} (E : eqD d (exD s p f v n)) : eqD (tkD (apD d (exL n) (exR n)) n (exM s f v n)) (exD s p f v (n + 1)) := by
  have hn : dn d = n := E.s.2.2.2
  refine ⟨?_, fun j hj => ?_⟩
  · show (ds d, dp d, dli d, dn d + 1) = (s, p, 100, n + 1)
    have h := E.s
    rw [h.1, h.2.1, h.2.2.1, hn]
    rfl
  · have hj2 : j < n + 1 := hj
    show upd (dl d) (dn d) (exL n) j = exL j ∧ upd (dr d) (dn d) (exR n) j = exR j ∧ upd (upd (dt d) (dn d) 0) n (nI (tkF (upd (dt d) (dn d) 0) n + 1)) j = 1 ∧ ∀ x, x < tkF (fun _ => 1) j → upd (dm d) (6 * n + tkF (upd (dt d) (dn d) 0) n) (exM s f v n) (6 * j + x) = exM s f v ((6 * j + x) / 6)
    have t0 : tkF (upd (dt d) n 0) n = 0 := tk_us (t := 0) (by omega)
    have t1 : tkF (fun _ => (1 : Int32)) j = 1 := (show (1 : Int32).toNatClampNeg = 1 by decide)
    rw [hn, t0, t1]
    by_cases c : j = n
    · rw [c, pk_us, pk_us, pk_us]
      refine ⟨rfl, rfl, rfl, fun x hx => ?_⟩
      rw [show x = 0 by omega, pk_us, show (6 * n + 0) / 6 = n by omega]
    · obtain ⟨r1, r2, r3, r4⟩ := E.row (i := j) (show j < n by omega)
      rw [pk_un c, pk_un c, pk_un c, pk_un c]
      refine ⟨r1, r2, r3, fun x hx => ?_⟩
      rw [pk_un (by omega)]
      exact r4 x (by rw [ex_tk]; omega)
section X1
variable {oo b U n : Nat} {w0 w : xW} {d : DD} {k : Nat} {H : Nat → DD} {Q : Option Value → xW → Prop} {s p f : Int32} {v : Nat → Int32}
theorem x59 (I : sI oo w0 w d k H U) (E : eqD d (exD s p f v n)) (hn : n < 12) {x y : Int32} (hx : x = exL n) (hy : y = exR n) (K : ∀ w2 k2 H2, sI oo w0 w2 (apD d (exL n) (exR n)) k2 H2 U → Q (some (.int (nI n))) w2) : x_isO (rd w oo) 5 ∧ Wp 59 b 0 [.ref oo, .int x, .int y] [] w Q := by
  subst hx
  subst hy
  have en : dn d = n := E.s.2.2.2
  refine b59 I (fun q => absurd (ex_ok n hn) q) (fun _ q => absurd (fnd_0 _ 0 (fun j _ hj => decide_eq_false (fun z => ?_))) q) (fun _ q => absurd q (by omega)) (fun w2 k2 H2 _ _ I2 _ => ?_)
  · have hj2 : j < n := by omega
    obtain ⟨r1, r2, -⟩ := E.row (i := j) hj2
    rw [r1, r2] at z
    exact ex_ne n hn j hj2 z
  · rw [en]
    exact K w2 k2 H2 I2
theorem x61 (I : sI oo w0 w (apD d (exL n) (exR n)) k H U) (E : eqD d (exD s p f v n)) (B : exB s f v) {r z : Int32} (hr : r = nI n) (hz : z = exM s f v n) (K : ∀ w2 d2 k2 H2, sI oo w0 w2 d2 k2 H2 U → eqD d2 (exD s p f v (n + 1)) → Q (some (.int 0)) w2) : x_isO (rd w oo) 5 ∧ Wp 61 b 0 [.ref oo, .int r, .int z] [] w Q := by
  subst hr
  subst hz
  have en : dn d = n := E.s.2.2.2
  have t0 : tkF (dt (apD d (exL n) (exR n))) n = 0 := by
    show tkF (upd (dt d) (dn d) 0) n = 0
    rw [en]
    exact tk_us (t := 0) (by omega)
  refine b61 I (show n < dn d + 1 by omega) (i32_rg (exM_b B n)) (fun q => absurd (t0.symm.trans q) (by decide)) (fun w2 k2 H2 _ I2 _ => ?_)
  rw [t0]
  exact K w2 _ k2 H2 I2 (eq_ex E)
end X1
