/-! Both worlds together -/
theorem vG_eq {d e : DD} {U : Nat} (E : eqD d e) (g : vG e U) : vG d U := by
  obtain ⟨g1, g2, g3, g4, g5⟩ := g
  obtain ⟨e1, e2, e3, e4⟩ := E.s
  refine ⟨E.v g1, by rw [e2]; exact g2, fun i hi j hj => ?_, fun j hj => ?_, by rw [e1]; exact g5⟩
  · rw [e4] at hi
    have e5 : tkF (dt d) i = tkF (dt e) i := agD.tk E.2 hi
    rw [e5] at hj
    rw [(E.row hi).2.2.2 j hj]
    exact g3 i hi j hj
  · rw [e4] at hj
    obtain ⟨h1, h2, -, -⟩ := E.row hj
    rw [h1, h2]
    exact g4 j hj
/-- the histories -/
def hiR (k : Nat) (H : Nat → DD) (wf : Nat → Int32) : Prop := ∀ j, j < k → (∃ U, vG (H j) U) ∧ ∃ nj, vM (fun z => wf (112 * j + z)) nj ∧ eqD (dOf nj (fun z => wf (112 * j + z))) (H j)
def rel (w : xW) (d : DD) (k : Nat) (H : Nat → DD) (cf : Nat → Int32) (len : Nat) (m : xM) (n U : Nat) : Prop := cW w d k H cf len ∧ isM w m ∧ vG d U ∧ k ≤ 5 ∧ vX cf len ∧ vM m.df n ∧ eqD (dOf n m.df) d ∧ m.st = k ∧ hiR k H m.wf ∧ m.cf = cf ∧ m.ty = len ∧ m.wr = -1 ∧ m.wd = -1
def REL (L : Nat) (sc : Nat → Int32) (w : xW) : Prop := w.2.2 = (L, sc) ∧ ∃ d k H cf len m n U, rel w d k H cf len m n U
/-- two calls, one behind the other, tell the same int -/
def PI (y z : Nat) (as bs : List Value) (L : Nat) (sc : Nat → Int32) (w : xW) : Prop := ∀ b, Wp y b 0 as [] w (fun o1 w1 => w1.2.2 = (L, sc) ∧ x_isO (rd w1 51) 6 ∧ ∃ v, o1 = some (.int v) ∧ ∀ b2, Wp z b2 0 bs [] w1 (fun o2 w2 => o2 = some (.int v) ∧ REL L sc w2))
def PJ (y z : Nat) (as bs : List Value) (L : Nat) (sc : Nat → Int32) (w : xW) : Prop := ∀ b, Wp y b 0 as [] w (fun o1 w1 => w1.2.2 = (L, sc) ∧ x_isO (rd w1 51) 6 ∧ ∃ v, o1 = some (.long v) ∧ ∀ b2, Wp z b2 0 bs [] w1 (fun o2 w2 => o2 = some (.long v) ∧ REL L sc w2))
section RL
variable {w w1 w2 : xW} {d d2 : DD} {k k2 len n U : Nat} {H H2 : Nat → DD} {cf : Nat → Int32} {m m2 : xM} {L : Nat} {sc : Nat → Int32}
theorem rel.vc (R : rel w d k H cf len m n U) : vC d k H cf len := ⟨R.2.2.1.1, R.2.2.2.1, fun i hi => by
  obtain ⟨⟨U2, g⟩, -⟩ := R.2.2.2.2.2.2.2.2.1 i hi
  exact g.1, R.2.2.2.2.1⟩
theorem rel.im (R : rel w d k H cf len m n U) : iM m n U := by
  obtain ⟨C, D, g, hk, vx, v, E, hs, hi, hc, ht, hw, hd⟩ := R
  have g2 := vG_eq E g
  exact ⟨v, g2.2.2.1, g2.2.2.2.1, g2.2.1, hw, hd, okF_of g2⟩
theorem rel.eq (R : rel w d k H cf len m n U) : eqD (dOf n m.df) d := R.2.2.2.2.2.2.1
theorem rel.hp (R : rel w d k H cf len m n U) : isU (dp d) U := R.2.2.1.2.1
theorem rel.hU (R : rel w d k H cf len m n U) : U = 4 ∨ U = 5 := R.2.2.1.2.1.2
theorem rel.vd (R : rel w d k H cf len m n U) : vD d := R.2.2.1.1
theorem rel.hn (R : rel w d k H cf len m n U) : dn d ≤ 12 := R.2.2.1.1.1
theorem rel.xkM (R : rel w d k H cf len m n U) (C2 : cW w2 d k H cf len) (D2 : isM w2 m2) (q : kM m m2) : rel w2 d k H cf len m2 n U := by
  obtain ⟨C, D, g, hk, vx, v, E, hs, hi, hc, ht, hw, hd⟩ := R
  obtain ⟨q1, q2, q3, q4, q5, q6, q7⟩ := q
  exact ⟨C2, D2, g, hk, vx, by rw [q1]; exact v, by rw [q1]; exact E, q3.trans hs, by rw [q2]; exact hi, q4.trans hc, q5.trans ht, q6.trans hw, q7.trans hd⟩
theorem rel.xREL (R : rel w d k H cf len m n U) (e : w.2.2 = (L, sc)) : REL L sc w := ⟨e, d, k, H, cf, len, m, n, U, R⟩
/-- a design recorded on both sides -/
theorem hi_rec {st2 : Nat} {wf2 : Nat → Int32} (h : hiR k H m.wf) (v : vM m.df n) (E : eqD (dOf n m.df) d) (g : vG d U) (hk : k ≤ 5) (hs : m.st = k) (r : reC d k H k2 H2) (c : st2 = (if m.st = 5 then 5 else m.st + 1)) (cw : ∀ j, j < st2 → ∀ q, q < 112 → wf2 (112 * j + q) = if j + 1 = st2 then m.df q else if m.st = 5 then m.wf (112 * (j + 1) + q) else m.wf (112 * j + q)) : k2 = st2 ∧ k2 ≤ 5 ∧ hiR k2 H2 wf2 := by
  obtain ⟨r1, r2⟩ := r
  have ek : k2 = st2 := by rw [r1, c, hs]
  have hk2 : k2 ≤ 5 := by
    rw [r1]
    split <;> omega
  refine ⟨ek, hk2, fun j hj => ?_⟩
  have a := r2 j hj
  have b := cw j (by omega)
  by_cases c1 : j + 1 = k2
  · rw [if_pos c1] at a
    have e2 : ∀ z, z < 112 → (fun z => wf2 (112 * j + z)) z = m.df z := fun z hz => by
      show wf2 (112 * j + z) = m.df z
      rw [b z hz, if_pos (by omega)]
    obtain ⟨f1, f2⟩ := dO_112 e2 v
    exact ⟨⟨U, vG_eq a g⟩, n, f2, (f1.tr E).tr a.sy⟩
  · rw [if_neg c1] at a
    by_cases c2 : k = 5
    · rw [if_pos c2] at a
      obtain ⟨g1, nj, v1, E1⟩ := h (j + 1) (by rw [r1, if_pos c2] at hj; rw [r1, if_pos c2] at c1; omega)
      have e2 : ∀ z, z < 112 → (fun z => wf2 (112 * j + z)) z = (fun z => m.wf (112 * (j + 1) + z)) z := fun z hz => by
        show wf2 (112 * j + z) = m.wf (112 * (j + 1) + z)
        rw [b z hz, if_neg (by omega), if_pos (by omega)]
      obtain ⟨f1, f2⟩ := dO_112 e2 v1
      rw [a]
      exact ⟨g1, nj, f2, f1.tr E1⟩
    · rw [if_neg c2] at a
      obtain ⟨g1, nj, v1, E1⟩ := h j (by rw [r1, if_neg c2] at hj c1; omega)
      have e2 : ∀ z, z < 112 → (fun z => wf2 (112 * j + z)) z = (fun z => m.wf (112 * j + z)) z := fun z hz => by
        show wf2 (112 * j + z) = m.wf (112 * j + z)
        rw [b z hz, if_neg (by omega), if_neg (by omega)]
      obtain ⟨f1, f2⟩ := dO_112 e2 v1
      rw [a]
      exact ⟨g1, nj, f2, f1.tr E1⟩
theorem rel.o51 (R : rel w d k H cf len m n U) (f : fr w w1 0 51) : x_isO (rd w1 51) 6 := ⟨_, (f.2.2 51 (Or.inr (Nat.le_refl _))).trans R.2.1.1⟩
theorem rel.o51w (R : rel w d k H cf len m n U) : x_isO (rd w 51) 6 := ⟨_, R.2.1.1⟩
theorem rel.o0 (R : rel w d k H cf len m n U) : x_isO (rd w 0) 5 := ⟨_, R.1.1⟩
/-- questions: the class' answer and the reference's -/
theorem rel.xPI {y z : Nat} {as bs : List Value} {A B : Int32} (R : rel w d k H cf len m n U) (e : w.2.2 = (L, sc)) (hAB : B = A) (h1 : ∀ b (Q : Option Value → xW → Prop), (∀ w2, fr w w2 0 51 → cW w2 d k H cf len → Q (some (.int A)) w2) → Wp y b 0 as [] w Q) (h2 : ∀ b (w1 : xW) (Q : Option Value → xW → Prop), isM w1 m → (∀ w2 m2, fr w1 w2 51 60 → isM w2 m2 → kM m m2 → Q (some (.int B)) w2) → Wp z b 0 bs [] w1 Q) : PI y z as bs L sc w := by
  intro b
  refine h1 b _ (fun w1 f1 C1 => ⟨f1.2.1.trans e, R.o51 f1, A, rfl, fun b2 => ?_⟩)
  refine h2 b2 w1 _ (R.2.1.fr f1 (Or.inr (Nat.le_refl _))) (fun w2 m2 f2 D2 q => ⟨by rw [hAB], ?_⟩)
  exact (R.xkM (C1.fx f2 (Nat.le_refl _)) D2 q).xREL (f2.2.1.trans (f1.2.1.trans e))
end RL
