/-! exact: what it asks of its design -/
theorem eq_tkD {d e : DD} (E : eqD d e) (ve : vD e) {i : Nat} {z : Int32} (hi : i < dn e) (ht : tkF (dt e) i < 6) : eqD (tkD d i z) (tkD e i z) := by
  have e1 : dt d i = dt e i := (E.row hi).2.2.1
  have e2 : tkF (dt d) i = tkF (dt e) i := by unfold tkF; rw [e1]
  refine ⟨E.1, fun j hj => ?_⟩
  obtain ⟨r1, r2, r3, r4⟩ := E.row (i := j) hj
  show dl d j = dl e j ∧ dr d j = dr e j ∧ upd (dt d) i (nI (tkF (dt d) i + 1)) j = upd (dt e) i (nI (tkF (dt e) i + 1)) j ∧ ∀ x, x < tkF (upd (dt e) i (nI (tkF (dt e) i + 1))) j → upd (dm d) (6 * i + tkF (dt d) i) z (6 * j + x) = upd (dm e) (6 * i + tkF (dt e) i) z (6 * j + x)
  rw [e2]
  refine ⟨r1, r2, ?_, fun x hx => ?_⟩
  · by_cases c : j = i
    · rw [c, pk_us, pk_us]
    · rw [pk_un c, pk_un c]
      exact r3
  · have t6 : tkF (dt e) j ≤ 6 := (ve.2 j hj).2
    by_cases c : 6 * j + x = 6 * i + tkF (dt e) i
    · rw [c, pk_us, pk_us]
    · rw [pk_un c, pk_un c]
      refine r4 x ?_
      by_cases c2 : j = i
      · subst c2
        rw [tk_us (by omega)] at hx
        omega
      · rw [tk_un c2] at hx
        exact hx
section X3
variable {oo b U ff : Nat} {w0 w : xW} {d : DD} {k : Nat} {H : Nat → DD} {Q : Option Value → xW → Prop} {s p f : Int32} {v : Nat → Int32}
theorem ex_u (h : (p = 0 ∧ f = 0) ∨ p = 1) (hp : isU p U) : exU p f U := by
  obtain ⟨h1, h2⟩ := hp
  rcases h with ⟨rfl, rfl⟩ | rfl
  · rcases h2 with rfl | rfl
    · exact Or.inr ⟨rfl, rfl, rfl⟩
    · exact absurd h1 (by decide)
  · rcases h2 with rfl | rfl
    · exact absurd h1 (by decide)
    · exact Or.inl ⟨rfl, rfl⟩
theorem ex_ge (I : sI oo w0 w d k H U) (E : eqD d (exD s p f v 12)) : vG (exD s p f v 12) U := vG_eq E.sy I.2.2.1
theorem ex_hu (h : (p = 0 ∧ f = 0) ∨ p = 1) (I : sI oo w0 w d k H U) (E : eqD d (exD s p f v 12)) : exU p f U := ex_u h (ex_ge I E).2.1
theorem ex_P (I : sI oo w0 w d k H U) (E : eqD d (exD s p f v 12)) : vP (exD s p f v 12) := vP_eq E.sy I.2.2.2
theorem ex_5 (I : sI oo w0 w d k H U) (E : eqD d (exD s p f v 12)) {len : Nat} : cnA d k len U 5 = 1 := by
  have h : cnA d k len U 5 = bI (¬ deD d U = 0) := cn_a (z := 5) (by omega)
  rw [h, E.de I.2.2.1.2.1.2]
  exact bI_t (ex_de0 (ex_ge I E))
theorem t94e (hf : ff ≤ 100) (hL : w0.2.2.1 ≤ 1000) (B : exB s f (deF w0.2.2 ff)) (h0 : (p = 0 ∧ f = 0) ∨ p = 1) (hb : w0.1 = b + 51) (I : sI oo w0 w d k H U) (E : eqD d (exD s p f (deF w0.2.2 ff) 12)) {x6 : Int32} (K : ∀ w2, fr w0 w2 oo (oo + 51) → Q (some (.int 1)) w2) : Wp 94 b 477 [.ref x_scr, .int (nI ff), .ref oo, .int p, .int f, .int 1, .int x6] [] w Q := by
  have z1 : ¬ (1 : Int32) = 0 := by decide
  have hU := I.2.2.1.2.1.2
  have ge := ex_ge I E
  have hu := ex_hu h0 I E
  have hn : dn d = 12 := E.s.2.2.2
  have t1 : tkF (dt d) 0 = 1 := by
    have := (E.row (i := 0) (show 0 < 12 by omega)).2.2.1
    unfold tkF
    rw [this]
    exact (show (1 : Int32).toNatClampNeg = 1 by decide)
  have e0 : ∀ len, cnA d k len U 0 = s := fun len => (cn_a (z := 0) (by omega)).trans E.s.1
  have bz : -100000 ≤ (deF w0.2.2 ff 1 - s + f + 500).toInt ∧ (deF w0.2.2 ff 1 - s + f + 500).toInt ≤ 100000 := by
    have b1 := ex_b B 1
    have q := e_a b1.1 b1.2.1 b1.2.2
    obtain ⟨c1, c2, c3⟩ := B
    have c4 := c3 1
    have e5 : (500 : Int32).toInt = 500 := rfl
    have r := (i32_add (a := deF w0.2.2 ff 1 - s + f) (b := 500) (by omega) (by omega)).1
    rw [r, q, e5]
    omega
  simp only [q94_477, q94_479, q94_482, q94_483, q94_484, q94_485, q94_486, q94_487, if_neg z1]
  refine x95 (j := 1) I hf (by omega) hL ?_
  simp only [rl_some, q94_490, q94_491, q94_492]
  refine i66 I (fun w I => ?_)
  simp only [rl_some, e0, q94_495, q94_496, q94_498, q94_499, q94_502, q94_503]
  refine b61 (i := 0) I (by omega) (i32_rg bz) (fun q => absurd (t1.symm.trans q) (by decide)) (fun w k H _ I _ => ?_)
  rw [t1]
  have E2 : eqD (tkD d 0 (deF w0.2.2 ff 1 - s + f + 500)) (tkD (exD s p f (deF w0.2.2 ff) 12) 0 (deF w0.2.2 ff 1 - s + f + 500)) := eq_tkD E ge.1 (show 0 < 12 by omega) (by rw [ex_tk]; omega)
  have ge2 : vG (tkD (exD s p f (deF w0.2.2 ff) 12) 0 (deF w0.2.2 ff 1 - s + f + 500)) U := vG_eq E2.sy I.2.2.1
  have ew : wiA (tkD d 0 (deF w0.2.2 ff 1 - s + f + 500)) U 0 1 1 0 = (deF w0.2.2 ff 1).toInt64 := (E2.xwiA ge2.1 hU).trans (ex_wi B hu ge ge2)
  have en : ¬ ¬ nI 1 = (1 : Int32) := i32_n rfl
  simp only [rl_some, q94_506, q94_507, q94_510, q94_511, q94_515, q94_517, q94_519, q94_522, q94_523, q94_524, q94_525, q94_526, q94_527, if_neg en, if_neg z1]
  refine i74 I (fun w I => ?_)
  simp only [rl_some, ew, q94_530, q94_531, q94_532, q94_533]
  refine x95 (j := 1) I hf (by omega) hL ?_
  simp only [rl_some, q94_536, q94_537, q94_538, q94_541, q94_542, if_neg (lg_xx _)]
  refine i93 I (fun w I => ?_)
  have hb2 : w.1 = b + 51 := I.1.1.1.trans hb
  simp only [rl_some, q94_545, q94_548, q94_549, if_neg z1]
  rw [q94_553 hb2]
  exact ⟨Or.inr rfl, K w I.1.1⟩
theorem l94c (B : exB s f (deF w0.2.2 ff)) (h0 : (p = 0 ∧ f = 0) ∨ p = 1) (E : eqD d (exD s p f (deF w0.2.2 ff) 12)) (K : ∀ w2 x6, sI oo w0 w2 d k H U → Wp 94 b 477 [.ref x_scr, .int (nI ff), .ref oo, .int p, .int f, .int 1, .int x6] [] w2 Q) : ∀ (t r : Nat) (w : xW), r + t = 12 → sI oo w0 w d k H U → Wp 94 b 426 [.ref x_scr, .int (nI ff), .ref oo, .int p, .int f, .int 1, .int (nI r)] [] w Q := by
  have z1 : ¬ (1 : Int32) = 0 := by decide
  intro t
  induction t with
  | zero =>
    intro r w hr I
    have e : r = 12 := by omega
    subst e
    have h : (12 : Int32) ≤ nI 12 := by decide
    simp only [q94_426, q94_428, q94_430, if_pos h]
    exact K w _ I
  | succ t ih =>
    intro r w hr I
    have h : ¬ (12 : Int32) ≤ nI r := by rw [show (12 : Int32) = nI 12 from rfl, nI_le' (by omega) (by omega)]; omega
    have hU := I.2.2.1.2.1.2
    have ge := ex_ge I E
    obtain ⟨q0, q1⟩ := ex_re B (ex_hu h0 I E) ge (r := r) (by omega)
    have r0 : reA d U (nI r) 0 0 = 0 := (E.xreA ge.1 hU).trans q0
    have r1 : reA d U (nI r) 0 1 = 1 := (E.xreA ge.1 hU).trans q1
    rw [q94_426]
    simp only [q94_428, q94_430, q94_433, q94_435, q94_438, q94_439, q94_441, q94_442, q94_443, if_neg h, if_neg z1]
    refine i70 I (fun w I => ?_)
    simp only [rl_some, r0, q94_446, q94_447, q94_448, q94_451, q94_452, q94_454, q94_455, q94_456, if_neg (lg_xx _)]
    refine i70 I (fun w I => ?_)
    simp only [rl_some, r1, q94_459, q94_460, q94_461, q94_464, q94_465, q94_469, q94_471, q94_474, if_neg (lg_xx _), nI_1]
    exact ih (r + 1) w (by omega) I
theorem l94b (hf : ff ≤ 100) (hL : w0.2.2.1 ≤ 1000) (B : exB s f (deF w0.2.2 ff)) (h0 : (p = 0 ∧ f = 0) ∨ p = 1) (E : eqD d (exD s p f (deF w0.2.2 ff) 12)) (K : ∀ w2 x6, sI oo w0 w2 d k H U → Wp 94 b 423 [.ref x_scr, .int (nI ff), .ref oo, .int p, .int f, .int 1, .int x6] [] w2 Q) : ∀ (t c : Nat) (w : xW), c + t = 4 → sI oo w0 w d k H U → Wp 94 b 350 [.ref x_scr, .int (nI ff), .ref oo, .int p, .int f, .int 1, .int (nI (c + 1))] [] w Q := by
  have z1 : ¬ (1 : Int32) = 0 := by decide
  intro t
  induction t with
  | zero =>
    intro c w hr I
    have e : c = 4 := by omega
    subst e
    have h : (5 : Int32) ≤ nI (4 + 1) := by decide
    simp only [q94_350, q94_352, q94_353, if_pos h]
    exact K w _ I
  | succ t ih =>
    intro c w hr I
    have h : ¬ (5 : Int32) ≤ nI (c + 1) := by rw [show (5 : Int32) = nI 5 from rfl, nI_le' (by omega) (by omega)]; omega
    have hU := I.2.2.1.2.1.2
    have ge := ex_ge I E
    obtain ⟨q0, q1⟩ := ex_va B (ex_hu h0 I E) ge (m := c + 1) (by omega)
    have v0 : vaA d U (nI (c + 1)) 0 = (deF w0.2.2 ff (c + 1)).toInt64 := (E.xvaA hU).trans q0
    have v1 : vaA d U (nI (c + 1)) 1 = 1 := (E.xvaA hU).trans q1
    have pb : pbA d (nI (3 * c + 2)) 0 = f.toInt64 := (E.xpbA (Nat.le_refl 12)).trans (ex_pb B (ex_P I E) (c := c) (by omega))
    obtain ⟨⟨-, -, n2⟩, -⟩ := ex_num c (by omega)
    rw [q94_350]
    simp only [q94_352, q94_353, q94_356, q94_358, q94_361, q94_362, q94_364, q94_365, if_neg h, if_neg z1]
    refine i68 I (fun w I => ?_)
    simp only [rl_some, v0, q94_368, q94_369, q94_370, q94_372]
    refine x95 I hf (by omega) hL ?_
    simp only [rl_some, q94_375, q94_376, q94_377, q94_380, q94_381, q94_383, q94_384, if_neg (lg_xx _)]
    refine i68 I (fun w I => ?_)
    simp only [rl_some, v1, q94_387, q94_388, q94_389, q94_392, q94_393, q94_394, q94_396, q94_397, q94_398, q94_399, q94_400, if_neg (lg_xx _), n2]
    refine i76 I (fun w I => ?_)
    simp only [rl_some, pb, q94_403, q94_405, q94_406, q94_407, q94_410, q94_411, q94_415, q94_417, q94_420, if_neg (lg_xx _), nI_1]
    exact ih (c + 1) w (by omega) I
/-- behind the rows -/
theorem t94d (hf : ff ≤ 100) (hL : w0.2.2.1 ≤ 1000) (B : exB s f (deF w0.2.2 ff)) (h0 : (p = 0 ∧ f = 0) ∨ p = 1) (hb : w0.1 = b + 51) (I : sI oo w0 w d k H U) (E : eqD d (exD s p f (deF w0.2.2 ff) 12)) {x6 : Int32} (K : ∀ w2, fr w0 w2 oo (oo + 51) → Q (some (.int 1)) w2) : Wp 94 b 297 [.ref x_scr, .int (nI ff), .ref oo, .int p, .int f, .int 1, .int x6] [] w Q := by
  have z1 : ¬ (1 : Int32) = 0 := by decide
  have hU := I.2.2.1.2.1.2
  obtain ⟨q0, q1⟩ := ex_pa B (ex_hu h0 I E) (ex_ge I E)
  have p0 : paA d U 0 = f.toInt64 := (E.xpaA hU).trans q0
  have p1 : paA d U 1 = 1 := (E.xpaA hU).trans q1
  have c5 := ex_5 I E (len := 0)
  simp only [q94_297, q94_299, q94_302, q94_303, q94_304, if_neg z1]
  refine i66 I (fun w I => ?_)
  simp only [rl_some, c5, q94_307, q94_308, q94_311, q94_312, if_neg (i32_n (x := 1) rfl)]
  refine i93 I (fun w I => ?_)
  simp only [rl_some, q94_315, q94_318, q94_319, q94_320, if_neg z1]
  refine i69 I (fun w I => ?_)
  simp only [rl_some, p0, q94_323, q94_325, q94_326, q94_327, q94_330, q94_331, q94_332, if_neg (lg_xx _)]
  refine i69 I (fun w I => ?_)
  simp only [rl_some, p1, q94_335, q94_336, q94_337, q94_340, q94_341, q94_345, q94_347, q94_348, if_neg (lg_xx _)]
  refine l94b (k := k) (H := H) hf hL B h0 E (fun w x6 I => ?_) 4 0 w (by omega) I
  simp only [q94_423, q94_424]
  exact l94c (k := k) (H := H) B h0 E (fun w x6 I => t94e hf hL B h0 hb I E K) 12 0 w (by omega) I
end X3
