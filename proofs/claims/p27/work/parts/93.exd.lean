/-! The design of exact readings -/
def exL : Nat → Int32 := fun r => ([2, 3, 1, 4, 5, 1, 8, 9, 1, 16, 17, 1] : List Int32).getD r 0
def exR : Nat → Int32 := fun r => ([1, 4, 2, 1, 2, 4, 1, 2, 8, 1, 2, 16] : List Int32).getD r 0
/-- a row's reading, out of the standard s, the pans' difference f and the deviations v 1 .. v 4 -/
def exM (s f : Int32) (v : Nat → Int32) (r : Nat) : Int32 := if r % 3 = 0 then v (r / 3 + 1) - s + f else if r % 3 = 1 then s + v (r / 3 + 1) - v (if r / 3 = 0 then 2 else 1) + f else s - v (r / 3 + 1) + f
def exD (s p f : Int32) (v : Nat → Int32) (n : Nat) : DD := ((s, p, 100, n), exL, exR, fun _ => 1, fun x => exM s f v (x / 6))
def exV (f : Int32) (v : Nat → Int32) : Nat → Int := fun i => if i = 4 then f.toInt else (v (i + 1)).toInt
def exB (s f : Int32) (v : Nat → Int32) : Prop := (-50 ≤ s.toInt ∧ s.toInt ≤ 50) ∧ (-20 ≤ f.toInt ∧ f.toInt ≤ 20) ∧ ∀ i, -1000 ≤ (v i).toInt ∧ (v i).toInt ≤ 1000
def exU (p f : Int32) (U : Nat) : Prop := (p = 1 ∧ U = 5) ∨ (p = 0 ∧ U = 4 ∧ f = 0)
def FX (r i : Nat) : Int := (fcF exL exR r (nI i)).toInt
abbrev NX (i j : Nat) : Int := NZ FX (fun _ => 1) 12 i j
theorem ex_d4 : dZ 4 NX ≠ 0 := by decide +kernel
theorem ex_d5 : dZ 5 NX ≠ 0 := by decide +kernel
theorem e_a {a b c : Int32} (ha : -100000 ≤ a.toInt ∧ a.toInt ≤ 100000) (hb : -100000 ≤ b.toInt ∧ b.toInt ≤ 100000) (hc : -100000 ≤ c.toInt ∧ c.toInt ≤ 100000) : (a - b + c).toInt = a.toInt - b.toInt + c.toInt := by
  have h1 := i32_sub (a := a) (b := b) (by omega) (by omega)
  rw [(i32_add (by omega) (by omega)).1, h1]
theorem e_b {a b c d : Int32} (ha : -100000 ≤ a.toInt ∧ a.toInt ≤ 100000) (hb : -100000 ≤ b.toInt ∧ b.toInt ≤ 100000) (hc : -100000 ≤ c.toInt ∧ c.toInt ≤ 100000) (hd : -100000 ≤ d.toInt ∧ d.toInt ≤ 100000) : (a + b - c + d).toInt = a.toInt + b.toInt - c.toInt + d.toInt := by
  have h1 := (i32_add (a := a) (b := b) (by omega) (by omega)).1
  have h2 := i32_sub (a := a + b) (b := c) (by omega) (by omega)
  rw [(i32_add (by omega) (by omega)).1, h2, h1]
section EX
variable {s p f : Int32} {v : Nat → Int32} {n U : Nat}
theorem ex_b (B : exB s f v) (i : Nat) : (-100000 ≤ (v i).toInt ∧ (v i).toInt ≤ 100000) ∧ (-100000 ≤ s.toInt ∧ s.toInt ≤ 100000) ∧ (-100000 ≤ f.toInt ∧ f.toInt ≤ 100000) := by
  obtain ⟨b1, b2, b3⟩ := B
  have := b3 i
  omega
theorem ex_m0 (B : exB s f v) : (exM s f v 0).toInt = (v 1).toInt - s.toInt + f.toInt := e_a (ex_b B 1).1 (ex_b B 0).2.1 (ex_b B 0).2.2
theorem ex_F0 : FX 0 0 = 1 ∧ FX 0 1 = 0 ∧ FX 0 2 = 0 ∧ FX 0 3 = 0 ∧ FX 0 4 = 1 ∧ (sgF exL exR 0 0).toInt = -1 := by decide +kernel
theorem ex_y0 (B : exB s f v) : yZ (exD s p f v n) 0 0 = qZ FX (exV f v) 5 0 := by
  obtain ⟨a0, a1, a2, a3, a4, a5⟩ := ex_F0
  show (exM s f v 0).toInt - (sgF exL exR 0 0).toInt * s.toInt = 0 + FX 0 0 * (v 1).toInt + FX 0 1 * (v 2).toInt + FX 0 2 * (v 3).toInt + FX 0 3 * (v 4).toInt + FX 0 4 * f.toInt
  rw [ex_m0 B, a0, a1, a2, a3, a4, a5]
  omega
theorem ex_m1 (B : exB s f v) : (exM s f v 1).toInt = s.toInt + (v 1).toInt - (v 2).toInt + f.toInt := e_b (ex_b B 0).2.1 (ex_b B 1).1 (ex_b B 2).1 (ex_b B 0).2.2
theorem ex_F1 : FX 1 0 = 1 ∧ FX 1 1 = -1 ∧ FX 1 2 = 0 ∧ FX 1 3 = 0 ∧ FX 1 4 = 1 ∧ (sgF exL exR 1 0).toInt = 1 := by decide +kernel
theorem ex_y1 (B : exB s f v) : yZ (exD s p f v n) 1 0 = qZ FX (exV f v) 5 1 := by
  obtain ⟨a0, a1, a2, a3, a4, a5⟩ := ex_F1
  show (exM s f v 1).toInt - (sgF exL exR 1 0).toInt * s.toInt = 0 + FX 1 0 * (v 1).toInt + FX 1 1 * (v 2).toInt + FX 1 2 * (v 3).toInt + FX 1 3 * (v 4).toInt + FX 1 4 * f.toInt
  rw [ex_m1 B, a0, a1, a2, a3, a4, a5]
  omega
theorem ex_r2 (B : exB s f v) : (exM s f v 2).toInt = s.toInt - (v 1).toInt + f.toInt := e_a (ex_b B 0).2.1 (ex_b B 1).1 (ex_b B 0).2.2
theorem ex_F2 : FX 2 0 = -1 ∧ FX 2 1 = 0 ∧ FX 2 2 = 0 ∧ FX 2 3 = 0 ∧ FX 2 4 = 1 ∧ (sgF exL exR 2 0).toInt = 1 := by decide +kernel
theorem ex_y2 (B : exB s f v) : yZ (exD s p f v n) 2 0 = qZ FX (exV f v) 5 2 := by
  obtain ⟨a0, a1, a2, a3, a4, a5⟩ := ex_F2
  show (exM s f v 2).toInt - (sgF exL exR 2 0).toInt * s.toInt = 0 + FX 2 0 * (v 1).toInt + FX 2 1 * (v 2).toInt + FX 2 2 * (v 3).toInt + FX 2 3 * (v 4).toInt + FX 2 4 * f.toInt
  rw [ex_r2 B, a0, a1, a2, a3, a4, a5]
  omega
theorem ex_m3 (B : exB s f v) : (exM s f v 3).toInt = (v 2).toInt - s.toInt + f.toInt := e_a (ex_b B 2).1 (ex_b B 0).2.1 (ex_b B 0).2.2
theorem ex_F3 : FX 3 0 = 0 ∧ FX 3 1 = 1 ∧ FX 3 2 = 0 ∧ FX 3 3 = 0 ∧ FX 3 4 = 1 ∧ (sgF exL exR 3 0).toInt = -1 := by decide +kernel
theorem ex_y3 (B : exB s f v) : yZ (exD s p f v n) 3 0 = qZ FX (exV f v) 5 3 := by
  obtain ⟨a0, a1, a2, a3, a4, a5⟩ := ex_F3
  show (exM s f v 3).toInt - (sgF exL exR 3 0).toInt * s.toInt = 0 + FX 3 0 * (v 1).toInt + FX 3 1 * (v 2).toInt + FX 3 2 * (v 3).toInt + FX 3 3 * (v 4).toInt + FX 3 4 * f.toInt
  rw [ex_m3 B, a0, a1, a2, a3, a4, a5]
  omega
theorem ex_m4 (B : exB s f v) : (exM s f v 4).toInt = s.toInt + (v 2).toInt - (v 1).toInt + f.toInt := e_b (ex_b B 0).2.1 (ex_b B 2).1 (ex_b B 1).1 (ex_b B 0).2.2
theorem ex_F4 : FX 4 0 = -1 ∧ FX 4 1 = 1 ∧ FX 4 2 = 0 ∧ FX 4 3 = 0 ∧ FX 4 4 = 1 ∧ (sgF exL exR 4 0).toInt = 1 := by decide +kernel
theorem ex_y4 (B : exB s f v) : yZ (exD s p f v n) 4 0 = qZ FX (exV f v) 5 4 := by
  obtain ⟨a0, a1, a2, a3, a4, a5⟩ := ex_F4
  show (exM s f v 4).toInt - (sgF exL exR 4 0).toInt * s.toInt = 0 + FX 4 0 * (v 1).toInt + FX 4 1 * (v 2).toInt + FX 4 2 * (v 3).toInt + FX 4 3 * (v 4).toInt + FX 4 4 * f.toInt
  rw [ex_m4 B, a0, a1, a2, a3, a4, a5]
  omega
theorem ex_m5 (B : exB s f v) : (exM s f v 5).toInt = s.toInt - (v 2).toInt + f.toInt := e_a (ex_b B 0).2.1 (ex_b B 2).1 (ex_b B 0).2.2
theorem ex_F5 : FX 5 0 = 0 ∧ FX 5 1 = -1 ∧ FX 5 2 = 0 ∧ FX 5 3 = 0 ∧ FX 5 4 = 1 ∧ (sgF exL exR 5 0).toInt = 1 := by decide +kernel
theorem ex_y5 (B : exB s f v) : yZ (exD s p f v n) 5 0 = qZ FX (exV f v) 5 5 := by
  obtain ⟨a0, a1, a2, a3, a4, a5⟩ := ex_F5
  show (exM s f v 5).toInt - (sgF exL exR 5 0).toInt * s.toInt = 0 + FX 5 0 * (v 1).toInt + FX 5 1 * (v 2).toInt + FX 5 2 * (v 3).toInt + FX 5 3 * (v 4).toInt + FX 5 4 * f.toInt
  rw [ex_m5 B, a0, a1, a2, a3, a4, a5]
  omega
theorem ex_m6 (B : exB s f v) : (exM s f v 6).toInt = (v 3).toInt - s.toInt + f.toInt := e_a (ex_b B 3).1 (ex_b B 0).2.1 (ex_b B 0).2.2
theorem ex_F6 : FX 6 0 = 0 ∧ FX 6 1 = 0 ∧ FX 6 2 = 1 ∧ FX 6 3 = 0 ∧ FX 6 4 = 1 ∧ (sgF exL exR 6 0).toInt = -1 := by decide +kernel
theorem ex_y6 (B : exB s f v) : yZ (exD s p f v n) 6 0 = qZ FX (exV f v) 5 6 := by
  obtain ⟨a0, a1, a2, a3, a4, a5⟩ := ex_F6
  show (exM s f v 6).toInt - (sgF exL exR 6 0).toInt * s.toInt = 0 + FX 6 0 * (v 1).toInt + FX 6 1 * (v 2).toInt + FX 6 2 * (v 3).toInt + FX 6 3 * (v 4).toInt + FX 6 4 * f.toInt
  rw [ex_m6 B, a0, a1, a2, a3, a4, a5]
  omega
theorem ex_m7 (B : exB s f v) : (exM s f v 7).toInt = s.toInt + (v 3).toInt - (v 1).toInt + f.toInt := e_b (ex_b B 0).2.1 (ex_b B 3).1 (ex_b B 1).1 (ex_b B 0).2.2
theorem ex_F7 : FX 7 0 = -1 ∧ FX 7 1 = 0 ∧ FX 7 2 = 1 ∧ FX 7 3 = 0 ∧ FX 7 4 = 1 ∧ (sgF exL exR 7 0).toInt = 1 := by decide +kernel
theorem ex_y7 (B : exB s f v) : yZ (exD s p f v n) 7 0 = qZ FX (exV f v) 5 7 := by
  obtain ⟨a0, a1, a2, a3, a4, a5⟩ := ex_F7
  show (exM s f v 7).toInt - (sgF exL exR 7 0).toInt * s.toInt = 0 + FX 7 0 * (v 1).toInt + FX 7 1 * (v 2).toInt + FX 7 2 * (v 3).toInt + FX 7 3 * (v 4).toInt + FX 7 4 * f.toInt
  rw [ex_m7 B, a0, a1, a2, a3, a4, a5]
  omega
theorem ex_m8 (B : exB s f v) : (exM s f v 8).toInt = s.toInt - (v 3).toInt + f.toInt := e_a (ex_b B 0).2.1 (ex_b B 3).1 (ex_b B 0).2.2
theorem ex_F8 : FX 8 0 = 0 ∧ FX 8 1 = 0 ∧ FX 8 2 = -1 ∧ FX 8 3 = 0 ∧ FX 8 4 = 1 ∧ (sgF exL exR 8 0).toInt = 1 := by decide +kernel
theorem ex_y8 (B : exB s f v) : yZ (exD s p f v n) 8 0 = qZ FX (exV f v) 5 8 := by
  obtain ⟨a0, a1, a2, a3, a4, a5⟩ := ex_F8
  show (exM s f v 8).toInt - (sgF exL exR 8 0).toInt * s.toInt = 0 + FX 8 0 * (v 1).toInt + FX 8 1 * (v 2).toInt + FX 8 2 * (v 3).toInt + FX 8 3 * (v 4).toInt + FX 8 4 * f.toInt
  rw [ex_m8 B, a0, a1, a2, a3, a4, a5]
  omega
theorem ex_m9 (B : exB s f v) : (exM s f v 9).toInt = (v 4).toInt - s.toInt + f.toInt := e_a (ex_b B 4).1 (ex_b B 0).2.1 (ex_b B 0).2.2
theorem ex_F9 : FX 9 0 = 0 ∧ FX 9 1 = 0 ∧ FX 9 2 = 0 ∧ FX 9 3 = 1 ∧ FX 9 4 = 1 ∧ (sgF exL exR 9 0).toInt = -1 := by decide +kernel
theorem ex_y9 (B : exB s f v) : yZ (exD s p f v n) 9 0 = qZ FX (exV f v) 5 9 := by
  obtain ⟨a0, a1, a2, a3, a4, a5⟩ := ex_F9
  show (exM s f v 9).toInt - (sgF exL exR 9 0).toInt * s.toInt = 0 + FX 9 0 * (v 1).toInt + FX 9 1 * (v 2).toInt + FX 9 2 * (v 3).toInt + FX 9 3 * (v 4).toInt + FX 9 4 * f.toInt
  rw [ex_m9 B, a0, a1, a2, a3, a4, a5]
  omega
theorem ex_m10 (B : exB s f v) : (exM s f v 10).toInt = s.toInt + (v 4).toInt - (v 1).toInt + f.toInt := e_b (ex_b B 0).2.1 (ex_b B 4).1 (ex_b B 1).1 (ex_b B 0).2.2
theorem ex_F10 : FX 10 0 = -1 ∧ FX 10 1 = 0 ∧ FX 10 2 = 0 ∧ FX 10 3 = 1 ∧ FX 10 4 = 1 ∧ (sgF exL exR 10 0).toInt = 1 := by decide +kernel
theorem ex_y10 (B : exB s f v) : yZ (exD s p f v n) 10 0 = qZ FX (exV f v) 5 10 := by
  obtain ⟨a0, a1, a2, a3, a4, a5⟩ := ex_F10
  show (exM s f v 10).toInt - (sgF exL exR 10 0).toInt * s.toInt = 0 + FX 10 0 * (v 1).toInt + FX 10 1 * (v 2).toInt + FX 10 2 * (v 3).toInt + FX 10 3 * (v 4).toInt + FX 10 4 * f.toInt
  rw [ex_m10 B, a0, a1, a2, a3, a4, a5]
  omega
theorem ex_m11 (B : exB s f v) : (exM s f v 11).toInt = s.toInt - (v 4).toInt + f.toInt := e_a (ex_b B 0).2.1 (ex_b B 4).1 (ex_b B 0).2.2
theorem ex_F11 : FX 11 0 = 0 ∧ FX 11 1 = 0 ∧ FX 11 2 = 0 ∧ FX 11 3 = -1 ∧ FX 11 4 = 1 ∧ (sgF exL exR 11 0).toInt = 1 := by decide +kernel
theorem ex_y11 (B : exB s f v) : yZ (exD s p f v n) 11 0 = qZ FX (exV f v) 5 11 := by
  obtain ⟨a0, a1, a2, a3, a4, a5⟩ := ex_F11
  show (exM s f v 11).toInt - (sgF exL exR 11 0).toInt * s.toInt = 0 + FX 11 0 * (v 1).toInt + FX 11 1 * (v 2).toInt + FX 11 2 * (v 3).toInt + FX 11 3 * (v 4).toInt + FX 11 4 * f.toInt
  rw [ex_m11 B, a0, a1, a2, a3, a4, a5]
  omega
theorem ex_y (B : exB s f v) {r : Nat} (hr : r < 12) : yZ (exD s p f v n) r 0 = qZ FX (exV f v) 5 r := by
  rcases (show r = 0 ∨ r = 1 ∨ r = 2 ∨ r = 3 ∨ r = 4 ∨ r = 5 ∨ r = 6 ∨ r = 7 ∨ r = 8 ∨ r = 9 ∨ r = 10 ∨ r = 11 by omega) with rfl | rfl | rfl | rfl | rfl | rfl | rfl | rfl | rfl | rfl | rfl | rfl
  · exact ex_y0 B
  · exact ex_y1 B
  · exact ex_y2 B
  · exact ex_y3 B
  · exact ex_y4 B
  · exact ex_y5 B
  · exact ex_y6 B
  · exact ex_y7 B
  · exact ex_y8 B
  · exact ex_y9 B
  · exact ex_y10 B
  · exact ex_y11 B
theorem ex_yU (B : exB s f v) (hu : exU p f U) {r : Nat} (hr : r < 12) : yZ (exD s p f v n) r 0 = qZ FX (exV f v) U r := by
  rw [ex_y B hr]
  rcases hu with ⟨-, rfl⟩ | ⟨-, rfl, rfl⟩
  · rfl
  · show qZ FX (exV 0 v) 4 r + FX r 4 * 0 = _
    rw [Int.mul_zero, Int.add_zero]
theorem ex_lt (hr : n ≤ 12) {r : Nat} (h : r < n) : r < 12 := by omega
theorem ex_F : FZ (exD s p f v n) = FX := rfl
theorem ex_T : TZ (exD s p f v n) = fun _ => 1 := funext fun r => by
  show ((1 : Int32).toNatClampNeg : Int) = 1
  decide
theorem ex_tk (r : Nat) : tkF (dt (exD s p f v n)) r = 1 := by
  show (1 : Int32).toNatClampNeg = 1
  decide
theorem ex_Y (r : Nat) : YZ (exD s p f v n) r = yZ (exD s p f v n) r 0 := by
  unfold YZ
  rw [ex_tk]
  exact Int.zero_add _
theorem exU_o (hu : exU p f U) : U = 4 ∨ U = 5 := by
  rcases hu with ⟨-, h⟩ | ⟨-, h, -⟩
  · exact Or.inr h
  · exact Or.inl h
/-- a system whose right sides are the rows' values at x -/
theorem ex_nu (hU : U = 4 ∨ U = 5) {Y : Nat → Int} {x : Nat → Int} (h : ∀ r, r < 12 → Y r = qZ FX x U r) {a : Nat} (ha : a < U) : dZ U (coR NX (BZ FX Y 12) a) = x a * dZ U NX := cr_x hU (fun i _ => by
  have e := N_q (F := FX) (T := fun _ => 1) (n := 12) (k := U) (x := x) i
  have e2 : sZ U (fun c => NX i c * x c) = sZ U (fun j => NZ FX (fun _ => 1) 12 i j * x j) := rfl
  rw [e2, e]
  exact sZ_c 12 (fun r hr => by
    rw [h r hr]
    grind)) ha
theorem ex_d (hU : U = 4 ∨ U = 5) : dZ U NX ≠ 0 := by
  rcases hU with rfl | rfl
  · exact ex_d4
  · exact ex_d5
theorem prt_m {x D : Int} (hD : 0 < D) (hD2 : D ≤ 1000000000000) (hx : -1000000 ≤ x ∧ x ≤ 1000000) : prt 0 (Int64.ofInt (x * D)) (Int64.ofInt D) = Int64.ofInt x ∧ prt 1 (Int64.ofInt (x * D)) (Int64.ofInt D) = 1 := by
  have b1 : (x * D).natAbs ≤ 1000000 * 1000000000000 := ab_m (by omega) (by omega)
  have t1 : (Int64.ofInt D).toInt = D := oi_t (by omega)
  have t2 : (Int64.ofInt (x * D)).toInt = x * D := oi_t (by omega)
  have hc : cdF (Int64.ofInt D) (Int64.ofInt (x * D)) = Int64.ofInt D := by
    refine Int64.toInt_inj.mp ?_
    rw [cd_gcd (by omega) (by omega), t1, t2, Int.gcd_mul_left_right]
    omega
  have hne : D ≠ 0 := by omega
  refine ⟨?_, ?_⟩
  · show (if (0 : Int32) = 0 then Int64.ofInt (x * D) / cdF (Int64.ofInt D) (Int64.ofInt (x * D)) else Int64.ofInt D / cdF (Int64.ofInt D) (Int64.ofInt (x * D))) = _
    rw [if_pos rfl, hc]
    refine Int64.toInt_inj.mp ?_
    rw [Int64.toInt_div, t1, t2, Int.mul_tdiv_cancel _ hne, oi_t (by omega)]
    exact bm64 (by omega) (by omega)
  · show (if (1 : Int32) = 0 then Int64.ofInt (x * D) / cdF (Int64.ofInt D) (Int64.ofInt (x * D)) else Int64.ofInt D / cdF (Int64.ofInt D) (Int64.ofInt (x * D))) = _
    rw [if_neg (by decide), hc]
    refine Int64.toInt_inj.mp ?_
    rw [Int64.toInt_div, t1, Int.tdiv_self hne]
    exact bm64 (by omega) (by omega)
theorem exV_b (B : exB s f v) (i : Nat) : -1000000 ≤ exV f v i ∧ exV f v i ≤ 1000000 := by
  unfold exV
  have b1 := (ex_b B (i + 1))
  split <;> omega
/-- the determinant -/
theorem ex_de (g : vG (exD s p f v 12) U) : deD (exD s p f v 12) U = Int64.ofInt (dZ U NX) := by
  have h := de_Z g
  rw [ex_T, ex_F] at h
  exact h
theorem ex_D (g : vG (exD s p f v 12) U) : 0 < dZ U NX ∧ dZ U NX ≤ 232190115840 := by
  have h := sy_d (U := U) (sy_0 g)
  rw [ex_T, ex_F] at h
  have h1 : 0 ≤ dZ U NX ∧ dZ U NX ≤ 232190115840 := h
  have := ex_d (U := U) g.2.1.2
  omega
theorem ex_de0 (g : vG (exD s p f v 12) U) : ¬ deD (exD s p f v 12) U = 0 := by
  have h := ex_D g
  rw [ex_de g]
  intro q
  have t : (Int64.ofInt (dZ U NX)).toInt = dZ U NX := oi_t (by omega)
  rw [q, show (0 : Int64).toInt = 0 from rfl] at t
  omega
theorem ex_nuZ (B : exB s f v) (hu : exU p f U) {a : Nat} (ha : a < U) : nuZ (exD s p f v 12) U a = exV f v a * dZ U NX := by
  have h := ex_nu (Y := YZ (exD s p f v 12)) (x := exV f v) (exU_o hu) (fun r hr => (ex_Y r).trans (ex_yU B hu hr)) ha
  unfold nuZ
  rw [ex_T, ex_F]
  exact h
theorem ex_nuD (B : exB s f v) (hu : exU p f U) (g : vG (exD s p f v 12) U) {a : Nat} (ha : a < U) : nuD (exD s p f v 12) U a = Int64.ofInt (exV f v a * dZ U NX) := by
  rw [nu_Z g ha, ex_nuZ B hu ha]
theorem ex_va (B : exB s f v) (hu : exU p f U) (g : vG (exD s p f v 12) U) {m : Nat} (hm : 1 ≤ m ∧ m ≤ 4) : vaA (exD s p f v 12) U (nI m) 0 = (v m).toInt64 ∧ vaA (exD s p f v 12) U (nI m) 1 = 1 := by
  have hU := exU_o hu
  obtain ⟨d1, d2⟩ := ex_D g
  have h := prt_m (x := exV f v (m - 1)) d1 (by omega) (exV_b B _)
  rw [va_a (ex_de0 g) hm hB_0, va_a (ex_de0 g) hm hB_1, ex_nuD B hu g (by omega), ex_de g]
  refine ⟨?_, h.2⟩
  rw [h.1]
  unfold exV
  rw [if_neg (by omega), show m - 1 + 1 = m by omega, Int64.ofInt_int32ToInt]
theorem ex_pa (B : exB s f v) (hu : exU p f U) (g : vG (exD s p f v 12) U) : paA (exD s p f v 12) U 0 = f.toInt64 ∧ paA (exD s p f v 12) U 1 = 1 := by
  obtain ⟨d1, d2⟩ := ex_D g
  unfold paA
  rw [if_pos hB_0, if_neg (ex_de0 g), if_pos hB_1, if_neg (ex_de0 g)]
  have hu2 := hu
  rcases hu with ⟨-, rfl⟩ | ⟨-, rfl, rfl⟩
  · have h := prt_m (x := exV f v 4) d1 (by omega) (exV_b B _)
    rw [if_neg (by decide), if_neg (by decide), ex_nuD B hu2 g (by omega), ex_de g]
    refine ⟨?_, h.2⟩
    rw [h.1]
    exact Int64.ofInt_int32ToInt f
  · rw [if_pos rfl, if_pos rfl]
    exact ⟨by decide +kernel, by decide +kernel⟩
theorem ex_rs (B : exB s f v) (hu : exU p f U) (g : vG (exD s p f v 12) U) {r : Nat} (hr : r < 12) : rsD (exD s p f v 12) U r 0 = 0 := by
  rw [rs_Z g]
  have e : rsZ (exD s p f v 12) U r 0 = 0 := by
    unfold rsZ
    rw [ex_T, ex_F, ex_yU B hu hr]
    have e2 : qZ FX (nuZ (exD s p f v 12) U) U r = dZ U NX * qZ FX (exV f v) U r := by
      unfold qZ
      rw [← sZ_mul]
      exact sZ_c U (fun j hj => by
        rw [ex_nuZ B hu hj]
        grind)
    rw [e2]
    exact Int.sub_self _
  rw [e]
  rfl
theorem ex_re (B : exB s f v) (hu : exU p f U) (g : vG (exD s p f v 12) U) {r : Nat} (hr : r < 12) : reA (exD s p f v 12) U (nI r) (nI 0) 0 = 0 ∧ reA (exD s p f v 12) U (nI r) (nI 0) 1 = 1 := by
  have hG' : hG (exD s p f v 12) (nI r) (nI 0) := hG_nI g.1 hr (by rw [ex_tk]; omega)
  have hd := (okF_of g).1 (ex_de0 g)
  unfold reA
  rw [if_pos ⟨hG', hB_0⟩, if_neg (ex_de0 g), if_pos ⟨hG', hB_1⟩, if_neg (ex_de0 g), cl_nI (by omega), cl_nI (by omega), ex_rs B hu g hr, prt_0 hd, prt_0 hd]
  exact ⟨by decide +kernel, by decide +kernel⟩
theorem ex_sm (r : Nat) : smF (dm (exD s p f v n)) (tkF (dt (exD s p f v n)) r) r = exM s f v r := by
  rw [ex_tk]
  show 0 + exM s f v ((6 * r + 0) / 6) = _
  rw [Int32.zero_add, show (6 * r + 0) / 6 = r by omega]
theorem ex_lr : ∀ c, c < 4 → exL (3 * c + 2) = exR (3 * c) ∧ exR (3 * c + 2) = exL (3 * c) := by decide +kernel
theorem ex_m2 (B : exB s f v) {c : Nat} (hc : c < 4) : (exM s f v (3 * c + 2)).toInt + (exM s f v (3 * c)).toInt = f.toInt * 2 := by
  rcases (show c = 0 ∨ c = 1 ∨ c = 2 ∨ c = 3 by omega) with rfl | rfl | rfl | rfl
  · have a := ex_m0 B
    have b := ex_r2 B
    show (exM s f v 2).toInt + (exM s f v 0).toInt = _
    omega
  · have a := ex_m3 B
    have b := ex_m5 B
    show (exM s f v 5).toInt + (exM s f v 3).toInt = _
    omega
  · have a := ex_m6 B
    have b := ex_m8 B
    show (exM s f v 8).toInt + (exM s f v 6).toInt = _
    omega
  · have a := ex_m9 B
    have b := ex_m11 B
    show (exM s f v 11).toInt + (exM s f v 9).toInt = _
    omega
theorem ex_pb (B : exB s f v) (P : vP (exD s p f v 12)) {c : Nat} (hc : c < 4) : pbA (exD s p f v 12) (nI (3 * c + 2)) 0 = f.toInt64 := by
  have t1 : ∀ r, ¬ dt (exD s p f v 12) r ≤ 0 := fun r => (show ¬ (1 : Int32) ≤ 0 by decide)
  have hsw : swF (dn (exD s p f v 12)) (dl (exD s p f v 12)) (dr (exD s p f v 12)) (dt (exD s p f v 12)) (3 * c + 2) = nI (3 * c) := sw_sy (d := exD s p f v 12) (Nat.le_refl 12) P (show 3 * c < 12 by omega) (ex_lr c hc).1 (ex_lr c hc).2 (t1 _) (t1 _)
  rw [pb_a (d := exD s p f v 12) (Nat.le_refl 12) (show 3 * c + 2 < 12 by omega) (show 3 * c < 12 by omega) hsw hB_0]
  have e1 : mnF (dt (exD s p f v 12)) (dm (exD s p f v 12)) (3 * c + 2) (3 * c) = Int64.ofInt (f.toInt * 2) := by
    unfold mnF
    rw [ex_sm, ex_sm]
    show (exM s f v (3 * c + 2)).toInt64 * (1 : Int32).toInt64 + (exM s f v (3 * c)).toInt64 * (1 : Int32).toInt64 = _
    rw [show (1 : Int32).toInt64 = 1 from by decide, Int64.mul_one, Int64.mul_one, ← Int64.ofInt_int32ToInt, ← Int64.ofInt_int32ToInt, ← Int64.ofInt_add, ex_m2 B hc]
  have e2 : (2 : Int64) * mdF (dt (exD s p f v 12)) (3 * c + 2) (3 * c) = Int64.ofInt 2 := by
    show (2 : Int64) * ((1 : Int32).toInt64 * (1 : Int32).toInt64) = _
    decide +kernel
  have b := (ex_b B 0).2.2
  rw [e1, e2, (prt_m (x := f.toInt) (D := 2) (by omega) (by omega) (by omega)).1]
  exact Int64.ofInt_int32ToInt f
/-- with one reading more in row 0, left out again -/
theorem ex_wi (B : exB s f v) (hu : exU p f U) {z : Int32} (g0 : vG (exD s p f v 12) U) (g : vG (tkD (exD s p f v 12) 0 z) U) : wiA (tkD (exD s p f v 12) 0 z) U (nI 0) (nI 1) 1 0 = (v 1).toInt64 := by
  have hU := exU_o hu
  obtain ⟨d1, d2⟩ := ex_D g0
  have tk : ∀ r, tkF (dt (tkD (exD s p f v 12) 0 z)) r = if r = 0 then 2 else 1 := fun r => by
    show tkF (upd (fun _ => 1) 0 (nI (tkF (dt (exD s p f v 12)) 0 + 1))) r = _
    rw [ex_tk]
    by_cases c : r = 0
    · rw [if_pos c, c, tk_us (by omega)]
    · rw [if_neg c, tk_un c]
      exact (show (1 : Int32).toNatClampNeg = 1 by decide)
  have hk : 1 < tkF (dt (tkD (exD s p f v 12) 0 z)) 0 := by rw [tk, if_pos rfl]; omega
  have hr : 0 < dn (tkD (exD s p f v 12) 0 z) := show 0 < 12 by omega
  have eT : ∀ r, T1 (tkD (exD s p f v 12) 0 z) 0 r = 1 := fun r => by
    unfold T1 TZ
    rw [tk]
    by_cases c : r = 0
    · rw [if_pos c, if_pos c]
      rfl
    · rw [if_neg c, if_neg c]
      rfl
  have y0 : ∀ r, yZ (tkD (exD s p f v 12) 0 z) r 0 = yZ (exD s p f v 12) r 0 := fun r => by
    show (upd (dm (exD s p f v 12)) (6 * 0 + tkF (dt (exD s p f v 12)) 0) z (6 * r + 0)).toInt - _ = (dm (exD s p f v 12) (6 * r + 0)).toInt - _
    rw [ex_tk, pk_un (by omega)]
    rfl
  have eY : ∀ r, Y1 (tkD (exD s p f v 12) 0 z) 0 1 r = yZ (exD s p f v 12) r 0 := fun r => by
    unfold Y1 YZ
    rw [tk]
    by_cases c : r = 0
    · rw [if_pos c, if_pos c, c]
      show 0 + yZ (tkD (exD s p f v 12) 0 z) 0 0 + yZ (tkD (exD s p f v 12) 0 z) 0 1 + -yZ (tkD (exD s p f v 12) 0 z) 0 1 = _
      rw [y0]
      omega
    · rw [if_neg c, if_neg c]
      show 0 + yZ (tkD (exD s p f v 12) 0 z) r 0 + 0 = _
      rw [y0]
      omega
  have h1 : deO (tkD (exD s p f v 12) 0 z) U 0 = Int64.ofInt (dZ U NX) := by
    have h := (dt_en hU (gN1_Z g hr) (gS1_Z g hr hk)).1
    have e : T1 (tkD (exD s p f v 12) 0 z) 0 = fun _ => 1 := funext eT
    rw [e] at h
    exact h
  have h2 : nuO (tkD (exD s p f v 12) 0 z) U 0 1 0 = Int64.ofInt (exV f v 0 * dZ U NX) := by
    have h := (dt_en hU (gN1_Z g hr) (gS1_Z g hr hk)).2 0 (by omega)
    have e : T1 (tkD (exD s p f v 12) 0 z) 0 = fun _ => 1 := funext eT
    rw [e] at h
    have e2 := ex_nu (U := U) (Y := Y1 (tkD (exD s p f v 12) 0 z) 0 1) (x := exV f v) hU (fun r hr => (eY r).trans (ex_yU B hu hr)) (a := 0) (by omega)
    exact h.trans (congrArg Int64.ofInt e2)
  have t : (Int64.ofInt (dZ U NX)).toInt = dZ U NX := oi_t (by omega)
  have hne : ¬ Int64.ofInt (dZ U NX) = 0 := fun q => by
    rw [q, show (0 : Int64).toInt = 0 from rfl] at t
    omega
  have hG' : hG (tkD (exD s p f v 12) 0 z) (nI 0) (nI 1) := hG_nI g.1 hr hk
  unfold wiA
  rw [if_pos ⟨hG', by decide, hB_0⟩, cl_nI (by omega), cl_nI (by omega), h1, if_neg hne, show (1 : Int32).toNatClampNeg - 1 = 0 from by decide, h2, (prt_m (x := exV f v 0) d1 (by omega) (exV_b B _)).1]
  exact Int64.ofInt_int32ToInt (v 1)
end EX
