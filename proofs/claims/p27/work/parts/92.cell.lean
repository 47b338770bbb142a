/-! cell and deviation; the class' changes, with what is kept -/
def ceF (s : Nat × (Nat → Int32)) (j : Nat) : Int32 := (if j < s.1 then s.2 j else 15485959 * nI j + 109) &&& 2147483647
theorem and_nn (x : Int32) : 0 ≤ (x &&& 2147483647).toInt := by
  show 0 ≤ (x &&& 2147483647).toBitVec.toInt
  have e : (2147483647 : Int32).toBitVec.toNat = 2147483647 := by decide
  have h : (x &&& 2147483647).toBitVec.toNat ≤ 2147483647 := by
    rw [Int32.toBitVec_and, BitVec.toNat_and, e]
    exact Nat.and_le_right
  rw [BitVec.toInt_eq_toNat_of_lt (by omega)]
  omega
theorem ce_nn (s : Nat × (Nat → Int32)) (j : Nat) : 0 ≤ (ceF s j).toInt := and_nn _
theorem bm32 {z : Int} (h1 : -2147483648 ≤ z) (h2 : z < 2147483648) : z.bmod 4294967296 = z := by
  rw [Int.bmod_def]
  omega
/-- a quotient and a remainder of what isn't below 0 -/
theorem qr_Z {x y : Int32} (hx : 0 ≤ x.toInt) (hy : 0 < y.toInt) : (x / y).toInt = x.toInt / y.toInt ∧ (x - x / y * y).toInt = x.toInt % y.toInt := by
  have hX : x.toInt < 2147483648 := Int32.toInt_lt x
  have h1 := Int.emod_add_mul_ediv x.toInt y.toInt
  have h2 := Int.emod_nonneg x.toInt (show y.toInt ≠ 0 by omega)
  have h3 := Int.emod_lt_of_pos x.toInt hy
  have h4 : 0 ≤ x.toInt / y.toInt := Int.ediv_nonneg hx (by omega)
  have h5 : x.toInt / y.toInt ≤ x.toInt := Int.ediv_le_self _ hx
  have e0 : (x / y).toInt = x.toInt / y.toInt := by
    rw [Int32.toInt_div, Int.tdiv_eq_ediv_of_nonneg hx]
    exact bm32 (by omega) (by omega)
  refine ⟨e0, ?_⟩
  rw [Int32.toInt_sub, Int32.toInt_mul, e0, Int.mul_comm]
  generalize y.toInt * (x.toInt / y.toInt) = z at h1 ⊢
  have hY : y.toInt < 2147483648 := Int32.toInt_lt y
  have e2 : z.bmod (2 ^ 32) = z := bm32 (by omega) (by omega)
  rw [e2]
  have e3 : (x.toInt - z).bmod (2 ^ 32) = x.toInt - z := bm32 (by omega) (by omega)
  rw [e3]
  omega
def deF (s : Nat × (Nat → Int32)) (f j : Nat) : Int32 := ceF s (f + 3 + j) - ceF s (f + 3 + j) / 2001 * 2001 - 1000
theorem i32_sub {a b : Int32} (ha : -1000000000 ≤ a.toInt ∧ a.toInt ≤ 1000000000) (hb : -1000000000 ≤ b.toInt ∧ b.toInt ≤ 1000000000) : (a - b).toInt = a.toInt - b.toInt := by
  rw [Int32.toInt_sub]
  exact bm32 (by omega) (by omega)
theorem de_b (s : Nat × (Nat → Int32)) (f j : Nat) : -1000 ≤ (deF s f j).toInt ∧ (deF s f j).toInt ≤ 1000 := by
  have h := (qr_Z (ce_nn s (f + 3 + j)) (y := 2001) (by decide)).2
  rw [show (2001 : Int32).toInt = 2001 from rfl] at h
  have e : (1000 : Int32).toInt = 1000 := rfl
  unfold deF
  generalize ceF s (f + 3 + j) - ceF s (f + 3 + j) / 2001 * 2001 = c at h ⊢
  rw [i32_sub (by omega) (by rw [e]; omega), e]
  omega
section CE
variable {b : Nat} {w : xW} {Q : Option Value → xW → Prop}
theorem c92 {j : Nat} (hj : j ≤ 1000) (hL : w.2.2.1 ≤ 1000) (K : Q (some (.int (ceF w.2.2 j))) w) : Wp 92 b 0 [.ref x_scr, .int (nI j)] [] w Q := by
  have e : Int32.ofNat w.2.2.1 = nI w.2.2.1 := rfl
  unfold ceF at K
  by_cases c : j < w.2.2.1
  · have hc : ¬ nI w.2.2.1 ≤ nI j := by rw [nI_le' hL hj]; omega
    have hx : x_in (nI j) w.2.2.1 := x_in_nI c hL
    rw [if_pos c] at K
    simp only [q92_0, q92_1, q92_2, true_and, e, q92_3, if_neg hc, q92_6, q92_7, q92_8]
    refine ⟨hx, ?_⟩
    rw [cl_nI hj]
    simp only [q92_9, q92_19, q92_21, q92_22]
    exact K
  · have hc : nI w.2.2.1 ≤ nI j := by rw [nI_le' hL hj]; omega
    rw [if_neg c] at K
    simp only [q92_0, q92_1, q92_2, true_and, e, q92_3, if_pos hc, q92_12, q92_14, q92_15, q92_16, q92_18, q92_19, q92_21, q92_22]
    exact K
theorem c95 {f j : Nat} (hf : f ≤ 100) (hj : j ≤ 100) (hL : w.2.2.1 ≤ 1000) (K : Q (some (.int (deF w.2.2 f j))) w) : Wp 95 b 0 [.ref x_scr, .int (nI f), .int (nI j)] [] w Q := by
  have e : nI f + 3 + nI j = nI (f + 3 + j) := by
    rw [show (3 : Int32) = nI 3 from rfl, nI_add, nI_add]
  have z : ¬ (2001 : Int32) = 0 := by decide
  simp only [q95_0, q95_1, q95_2, q95_3, q95_4, q95_5, q95_6, e]
  refine c92 (by omega) hL ?_
  simp only [rl_some, q95_9, q95_12, q95_13, q95_16, q95_17, z, not_false_eq_true, true_and]
  exact K
end CE
/-! an object of the class, with all that is kept -/
def sI (oo : Nat) (w0 w : xW) (d : DD) (k : Nat) (H : Nat → DD) (U : Nat) : Prop := sT oo w0 w d k H z32 0 ∧ vC d k H z32 0 ∧ vG d U ∧ vP d
theorem fnd_n {P : Nat → Bool} : ∀ (k i : Nat), i + k ≤ 1000 → fndN P k i = -1 → ∀ j, i ≤ j → j < i + k → P j = false
  | 0, i, _, _, j, h1, h2 => absurd h2 (by omega)
  | k + 1, i, hk, h, j, h1, h2 => by
    have h' : (if P i = true then nI i else fndN P k (i + 1)) = -1 := h
    by_cases e : P i = true
    · rw [if_pos e] at h'
      exact absurd h' (nI_m1 (by omega))
    · rw [if_neg e] at h'
      by_cases c : j = i
      · rw [c]
        simpa using e
      · exact fnd_n k (i + 1) (by omega) h' j (by omega) (by omega)
theorem fnd_0 {P : Nat → Bool} : ∀ (k i : Nat), (∀ j, i ≤ j → j < i + k → P j = false) → fndN P k i = -1
  | 0, _, _ => rfl
  | k + 1, i, h => by
    show (if P i = true then nI i else fndN P k (i + 1)) = -1
    rw [if_neg (by rw [h i (Nat.le_refl _) (by omega)]; exact Bool.noConfusion)]
    exact fnd_0 k (i + 1) (fun j h1 h2 => h j (by omega) (by omega))
theorem vC_re {d d2 : DD} {k k2 : Nat} {H H2 : Nat → DD} (v : vC d k H z32 0) (r : reC d k H k2 H2) (v2 : vD d2) : vC d2 k2 H2 z32 0 := by
  obtain ⟨v1, vk, vh, vx⟩ := v
  obtain ⟨r1, r2⟩ := r
  have hk2 : k2 ≤ 5 := by
    rw [r1]
    split <;> omega
  refine ⟨v2, hk2, fun i hi => ?_, vx⟩
  have h := r2 i hi
  by_cases c : i + 1 = k2
  · rw [if_pos c] at h
    exact h.v v1
  · rw [if_neg c] at h
    by_cases c2 : k = 5
    · rw [if_pos c2] at h r1
      rw [h]
      exact vh (i + 1) (by omega)
    · rw [if_neg c2] at h r1
      rw [h]
      exact vh i (by omega)
theorem vP_ap {d : DD} {x y : Int32} (p : vP d) (ok : okA x y) (hn : dn d ≤ 12) (hf : fndN (fun j => decide (dl d j = x ∧ dr d j = y)) (dn d) 0 = -1) : vP (apD d x y) := by
  have nf : ∀ j, j < dn d → ¬ (dl d j = x ∧ dr d j = y) := fun j hj => of_decide_eq_false (fnd_n (dn d) 0 (by omega) hf j (by omega) (by omega))
  refine ⟨fun r hr => ?_, fun r s hr hs h1 h2 => ?_⟩
  · have hr2 : r < dn d + 1 := hr
    show ((1 ≤ upd (dl d) (dn d) x r ∧ upd (dl d) (dn d) x r ≤ 31) ∧ 1 ≤ upd (dr d) (dn d) y r ∧ upd (dr d) (dn d) y r ≤ 31) ∧ upd (dl d) (dn d) x r &&& upd (dr d) (dn d) y r = 0
    by_cases c : r = dn d
    · rw [c, pk_us, pk_us]
      exact ⟨⟨ok.1, ok.2.1⟩, ok.2.2⟩
    · rw [pk_un c, pk_un c]
      exact p.1 r (by omega)
  · have hr2 : r < dn d + 1 := hr
    have hs2 : s < dn d + 1 := hs
    have h1' : upd (dl d) (dn d) x r = upd (dl d) (dn d) x s := h1
    have h2' : upd (dr d) (dn d) y r = upd (dr d) (dn d) y s := h2
    by_cases c : r = dn d
    · by_cases c2 : s = dn d
      · omega
      · rw [c, pk_us, pk_un c2] at h1' h2'
        exact absurd ⟨h1'.symm, h2'.symm⟩ (nf s (by omega))
    · by_cases c2 : s = dn d
      · rw [c2, pk_us, pk_un c] at h1' h2'
        exact absurd ⟨h1', h2'⟩ (nf r (by omega))
      · rw [pk_un c, pk_un c2] at h1' h2'
        exact p.2 r s (by omega) (by omega) h1' h2'
theorem vP_st {d : DD} {s x : Int32} (p : vP d) : vP (stD d s x) := by
  unfold stD
  split
  · exact p
  · split
    · exact p
    · exact p
theorem vP_eq {d e : DD} (E : eqD d e) (p : vP e) : vP d := by
  have hn : dn d = dn e := E.s.2.2.2
  refine ⟨fun r hr => ?_, fun r s hr hs h1 h2 => ?_⟩
  · rw [hn] at hr
    rw [(E.row hr).1, (E.row hr).2.1]
    exact p.1 r hr
  · rw [hn] at hr hs
    rw [(E.row hr).1, (E.row hs).1] at h1
    rw [(E.row hr).2.1, (E.row hs).2.1] at h2
    exact p.2 r s hr hs h1 h2
section B1
variable {oo b U : Nat} {w0 w : xW} {d : DD} {k : Nat} {H : Nat → DD} {Q : Option Value → xW → Prop}
theorem b58 (I : sI oo w0 w d k H U) {s x : Int32} (ok : okS s x) (K : ∀ w2 k2 H2 U2, sI oo w0 w2 (stD d s x) k2 H2 U2 → reC d k H k2 H2 → Q (some (.int (geD d s))) w2) : x_isO (rd w oo) 5 ∧ Wp 58 b 0 [.ref oo, .int s, .int x, x_no] [] w Q := by
  obtain ⟨⟨f, C⟩, v, g, p⟩ := I
  refine ⟨⟨_, C.1⟩, c58 C v (fun q => absurd ok q) (fun w2 k2 H2 _ f2 C2 r => ?_)⟩
  obtain ⟨U2, g2⟩ := vG_st g ok
  exact K w2 k2 H2 U2 ⟨⟨f.tr f2, C2⟩, vC_re v r g2.1, g2, vP_st p⟩ r
theorem b59 (I : sI oo w0 w d k H U) {x y : Int32} (K0 : ¬ okA x y → ∀ w2, sI oo w0 w2 d k H U → Q (some (.int (-2000000001))) w2) (K1 : okA x y → ¬ fndN (fun j => decide (dl d j = x ∧ dr d j = y)) (dn d) 0 = -1 → ∀ w2, sI oo w0 w2 d k H U → Q (some (.int (-2000000002))) w2) (K2 : okA x y → dn d = 12 → ∀ w2, sI oo w0 w2 d k H U → Q (some (.int (-2000000003))) w2) (K : ∀ w2 k2 H2, okA x y → dn d < 12 → sI oo w0 w2 (apD d x y) k2 H2 U → reC d k H k2 H2 → Q (some (.int (nI (dn d)))) w2) : x_isO (rd w oo) 5 ∧ Wp 59 b 0 [.ref oo, .int x, .int y] [] w Q := by
  have I0 := I
  obtain ⟨⟨f, C⟩, v, g, p⟩ := I
  refine ⟨⟨_, C.1⟩, c59 C v (fun q => K0 q w I0) (fun q1 q2 => K1 q1 q2 w I0) (fun q1 _ q3 => K2 q1 q3 w I0) (fun w2 k2 H2 ok hf hn f2 C2 r => ?_)⟩
  have g2 : vG (apD d x y) U := vG_ap g hn (x_msk ok.1) (x_msk ok.2.1)
  exact K w2 k2 H2 ok hn ⟨⟨f.tr f2, C2⟩, vC_re v r g2.1, g2, vP_ap p ok (by omega) hf⟩ r
theorem b61 (I : sI oo w0 w d k H U) {i : Nat} {x : Int32} (hi : i < dn d) (hx : -100000 ≤ x ∧ x ≤ 100000) (K1 : tkF (dt d) i = 6 → ∀ w2, sI oo w0 w2 d k H U → Q (some (.int (-2000000003))) w2) (K : ∀ w2 k2 H2, tkF (dt d) i < 6 → sI oo w0 w2 (tkD d i x) k2 H2 U → reC d k H k2 H2 → Q (some (.int (nI (tkF (dt d) i)))) w2) : x_isO (rd w oo) 5 ∧ Wp 61 b 0 [.ref oo, .int (nI i), .int x] [] w Q := by
  have I0 := I
  obtain ⟨⟨f, C⟩, v, g, p⟩ := I
  have hn := v.n
  refine ⟨⟨_, C.1⟩, c61 C v (fun q => absurd ⟨hR_nI hn hi, hx⟩ q) (fun j hj e _ h6 => ?_) (fun j w2 k2 H2 hj e _ h6 f2 C2 r => ?_)⟩
  · have e2 : i = j := (nI_eq' (by omega) (by omega)).mp e
    subst e2
    exact K1 h6 w I0
  · have e2 : i = j := (nI_eq' (by omega) (by omega)).mp e
    subst e2
    have g2 : vG (tkD d i x) U := vG_tk g hi h6 (x_rg hx)
    exact K w2 k2 H2 h6 ⟨⟨f.tr f2, C2⟩, vC_re v r g2.1, g2, p⟩ r
theorem b62 (I : sI oo w0 w d k H U) {i t : Nat} (hi : i < dn d) (ht : tkF (dt d) i = t + 1) (K : ∀ w2 d2 k2 H2, sI oo w0 w2 d2 k2 H2 U → dn d2 = dn d → dt d2 i = nI t → reC d k H k2 H2 → Q (some (.int (nI t))) w2) : x_isO (rd w oo) 5 ∧ Wp 62 b 0 [.ref oo, .int (nI i), .int 0] [] w Q := by
  obtain ⟨⟨f, C⟩, v, g, p⟩ := I
  have hn := v.n
  have hG' : hG d (nI i) (nI 0) := hG_nI v.1 hi (by omega)
  refine ⟨⟨_, C.1⟩, c62 C v (fun q => absurd hG' q) (fun j z t2 w2 mf2 k2 H2 hj e ez hz h6 e1 f2 C2 em r => ?_)⟩
  have e2 : i = j := (nI_eq' (by omega) (by omega)).mp e
  subst e2
  have t3 := (v.t hi).1
  have e4 : t2 = t := by
    have t6 := (v.t hi).2
    rw [t3, ht] at e1
    have := (nI_eq' (by omega) (by omega)).mp e1
    omega
  subst e4
  have g2 : vG (d.1, dl d, dr d, upd (dt d) i (nI t2), mf2) U := vG_dr g hi e1 h6 hz em
  exact K w2 _ k2 H2 ⟨⟨f.tr f2, C2⟩, vC_re v r g2.1, g2, p⟩ rfl pk_us r
end B1
