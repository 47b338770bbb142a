/-! What the fractions need holds for every design within its limits -/
/-- a design within its limits; U unknown numbers -/
def vG (d : DD) (U : Nat) : Prop := vD d ∧ isU (dp d) U ∧ vR (dn d) (dt d) (dm d) ∧ vS (dn d) (dl d) (dr d) ∧ -100000 ≤ (ds d).toInt ∧ (ds d).toInt ≤ 100000
theorem oi_t {z : Int} (h : z.natAbs ≤ 4000000000000000000) : (Int64.ofInt z).toInt = z := Int64.toInt_ofInt_of_le (by omega) (by omega)
theorem oi_n {z : Int} (h : z.natAbs ≤ 4000000000000000000) : (Int64.ofInt z).toInt ≠ -9223372036854775808 := by
  rw [oi_t h]
  omega
theorem x_wZ : ∀ t, t ≤ 6 → ∀ f ∈ ([-1, 0, 1] : List Int32), ∀ g ∈ ([-1, 0, 1] : List Int32), (f * g * nI t).toInt64 = Int64.ofInt (f.toInt * g.toInt * (t : Int)) ∧ (f * g * (-1)).toInt64 = Int64.ofInt (f.toInt * g.toInt * -1) := by decide +kernel
theorem x_tZ : ∀ t, t ≤ 6 → (nI t).toInt64 = Int64.ofInt (t : Int) := by decide +kernel
theorem fo_G {g : Int64 → Nat → Int64} {h : Nat → Int} : ∀ k (a : Int), (∀ j, j < k → ∀ a, g (Int64.ofInt a) j = Int64.ofInt (a + h j)) → foldN g k 0 (Int64.ofInt a) = Int64.ofInt (a + sZ k h)
  | 0, a, _ => by
    show Int64.ofInt a = Int64.ofInt (a + 0)
    rw [Int.add_zero]
  | k + 1, a, hg => by
    rw [foldN_snoc, fo_G k a (fun j hj => hg j (by omega)), Nat.zero_add, hg k (by omega), Int.add_assoc]
    rfl
theorem dt_en {U : Nat} (hU : U = 4 ∨ U = 5) {N : Nat → Nat → Int64} {S : Nat → Int64} {NN : Nat → Nat → Int} {BB : Nat → Int} (h1 : ∀ i j, N i j = Int64.ofInt (NN i j)) (h2 : ∀ i, S i = Int64.ofInt (BB i)) : dtF U N = Int64.ofInt (dZ U NN) ∧ ∀ a, a < U → dtF U (enF (nI a) N S) = Int64.ofInt (dZ U (coR NN BB a)) := by
  refine ⟨(dtF_congr hU (fun r c _ _ => h1 r c)).trans (dt_Z hU), fun a ha => (dtF_congr hU (fun r c _ hc => ?_)).trans (dt_Z hU)⟩
  have u5 : U ≤ 5 := by omega
  unfold enF coR
  by_cases q : c = a
  · rw [if_pos (by rw [q]), if_pos q]
    exact h2 r
  · rw [if_neg (fun e => q ((nI_eq' (by omega) (by omega)).mp e)), if_neg q]
    exact h1 r c
def FZ (d : DD) (r i : Nat) : Int := (fcF (dl d) (dr d) r (nI i)).toInt
def TZ (d : DD) (r : Nat) : Int := (tkF (dt d) r : Int)
def yZ (d : DD) (r k : Nat) : Int := (dm d (6 * r + k)).toInt - (sgF (dl d) (dr d) r 0).toInt * (ds d).toInt
def YZ (d : DD) (r : Nat) : Int := sZ (tkF (dt d) r) (yZ d r)
section OK
variable {d : DD} {U : Nat}
theorem sg_1 (lf rf : Nat → Int32) (r : Nat) (m : Int32) : (sgF lf rf r m).toInt.natAbs ≤ 1 := by
  rcases sgF_or lf rf r m with q | q | q <;> rw [q] <;> decide
theorem F_1 (r i : Nat) : (FZ d r i).natAbs ≤ 1 := by
  unfold FZ
  rcases fcF_or (dl d) (dr d) r (nI i) with q | q | q <;> rw [q] <;> decide
theorem F_m (r i : Nat) : fcF (dl d) (dr d) r (nI i) ∈ ([-1, 0, 1] : List Int32) := by
  rcases fcF_or (dl d) (dr d) r (nI i) with q | q | q <;> rw [q] <;> decide
theorem vG.t (g : vG d U) {r : Nat} (hr : r < dn d) : dt d r = nI (tkF (dt d) r) ∧ tkF (dt d) r ≤ 6 := g.1.2 r hr
theorem y_b (g : vG d U) {r k : Nat} (hr : r < dn d) (hk : k < tkF (dt d) r) : (yZ d r k).natAbs ≤ 200000 := by
  have a := g.2.2.1 r hr k hk
  have b := g.2.2.2.2
  have c := ab_m (sg_1 (dl d) (dr d) r 0) (show (ds d).toInt.natAbs ≤ 100000 by omega)
  unfold yZ
  omega
theorem Y_b (g : vG d U) {r : Nat} (hr : r < dn d) : (YZ d r).natAbs ≤ 1200000 := by
  have h := sZ_ab (f := yZ d r) (B := 200000) (tkF (dt d) r) (fun k hk => y_b g hr hk)
  have t6 := (g.t hr).2
  have : tkF (dt d) r * 200000 ≤ 6 * 200000 := Nat.mul_le_mul_right _ t6
  unfold YZ
  omega
theorem sy_0 (g : vG d U) : syZ (FZ d) (TZ d) (YZ d) (dn d) := ⟨g.1.1, fun r i => F_1 r i, fun r hr => by
  have := (g.t hr).2
  unfold TZ
  omega, fun r hr => by
  have := Y_b g hr
  omega⟩
theorem gN_Z (g : vG d U) (i j : Nat) : gNd d i j = Int64.ofInt (NZ (FZ d) (TZ d) (dn d) i j) := by
  have h := fo_Z (x := fun r => wN (dl d) (dr d) r (dt d r) i j) (g := fun r => FZ d r i * FZ d r j * TZ d r) (a := 0) (dn d) (fun r hr => by
    obtain ⟨t1, t2⟩ := g.t hr
    show (fcF (dl d) (dr d) r (nI i) * fcF (dl d) (dr d) r (nI j) * dt d r).toInt64 = _
    rw [t1]
    exact (x_wZ _ t2 _ (F_m r i) _ (F_m r j)).1)
  rw [Int.zero_add] at h
  exact h
theorem sm_Z (g : vG d U) {r : Nat} (hr : r < dn d) : (smF (dm d) (tkF (dt d) r) r).toInt64 = Int64.ofInt (sZ (tkF (dt d) r) (fun k => (dm d (6 * r + k)).toInt)) := by
  rw [← (sm_L g.1 g.2.2.1 hr).1]
  have h := fo_Z (x := fun k => (dm d (6 * r + k)).toInt64) (g := fun k => (dm d (6 * r + k)).toInt) (a := 0) (tkF (dt d) r) (fun k _ => rfl)
  rw [Int.zero_add] at h
  exact h
theorem Y_s (r : Nat) : YZ d r = sZ (tkF (dt d) r) (fun k => (dm d (6 * r + k)).toInt) - (tkF (dt d) r : Int) * (sgF (dl d) (dr d) r 0).toInt * (ds d).toInt := by
  have h := w_1 (D := 1) (q := (sgF (dl d) (dr d) r 0).toInt * (ds d).toInt) (m := tkF (dt d) r) (v := fun k => (dm d (6 * r + k)).toInt)
  unfold YZ
  rw [sZ_c (g := fun k => 1 * (dm d (6 * r + k)).toInt - (sgF (dl d) (dr d) r 0).toInt * (ds d).toInt) _ (fun k _ => by
    unfold yZ
    rw [Int.one_mul]), h, Int.one_mul, Int.mul_assoc]
theorem gS_Z (g : vG d U) (i : Nat) : gSd d i = Int64.ofInt (BZ (FZ d) (YZ d) (dn d) i) := by
  have h := fo_Z (x := fun r => wS (ds d) (dl d) (dr d) r (dt d r) (smF (dm d) (tkF (dt d) r) r) i) (g := fun r => FZ d r i * YZ d r) (a := 0) (dn d) (fun r hr => by
    obtain ⟨t1, t2⟩ := g.t hr
    show (fcF (dl d) (dr d) r (nI i)).toInt64 * ((smF (dm d) (tkF (dt d) r) r).toInt64 - (dt d r).toInt64 * (sgF (dl d) (dr d) r 0).toInt64 * (ds d).toInt64) = _
    rw [sm_Z g hr, t1, x_tZ _ t2, ← Int64.ofInt_int32ToInt, ← Int64.ofInt_int32ToInt, ← Int64.ofInt_int32ToInt, ← Int64.ofInt_mul, ← Int64.ofInt_mul, ← Int64.ofInt_sub, ← Int64.ofInt_mul, Y_s]
    rfl)
  rw [Int.zero_add] at h
  exact h
/-! a reading left out -/
def T1 (d : DD) (r0 r : Nat) : Int := TZ d r + if r = r0 then -1 else 0
def Y1 (d : DD) (r0 k0 r : Nat) : Int := YZ d r + if r = r0 then -yZ d r k0 else 0
theorem sy_1 (g : vG d U) {r0 k0 : Nat} (hr : r0 < dn d) (hk : k0 < tkF (dt d) r0) : syZ (FZ d) (T1 d r0) (Y1 d r0 k0) (dn d) := ⟨g.1.1, fun r i => F_1 r i, fun r hr => by
  have := (g.t hr).2
  unfold T1 TZ
  by_cases c : r = r0
  · subst c
    rw [if_pos rfl]
    omega
  · rw [if_neg c]
    omega, fun r hr => by
  have a := Y_b g hr
  unfold Y1
  by_cases c : r = r0
  · subst c
    have b := y_b g hr hk
    rw [if_pos rfl]
    omega
  · rw [if_neg c]
    omega⟩
theorem gN1_Z (g : vG d U) {r0 : Nat} (hr : r0 < dn d) (i j : Nat) : gN1 (dn d) (dl d) (dr d) (dt d) r0 i j = Int64.ofInt (NZ (FZ d) (T1 d r0) (dn d) i j) := by
  have e : NZ (FZ d) (T1 d r0) (dn d) i j = NZ (FZ d) (TZ d) (dn d) i j + FZ d r0 i * FZ d r0 j * -1 := by
    have h := sZ_1 (f := fun r => FZ d r i * FZ d r j * -1) (r := r0) (dn d) hr
    unfold NZ
    rw [← h, ← sZ_add]
    exact sZ_c _ (fun r _ => by
      show FZ d r i * FZ d r j * (TZ d r + if r = r0 then -1 else 0) = FZ d r i * FZ d r j * TZ d r + if r = r0 then FZ d r i * FZ d r j * -1 else 0
      by_cases c : r = r0
      · rw [if_pos c, if_pos c]
        grind
      · rw [if_neg c, if_neg c]
        grind)
  unfold gN1
  have hw : wN (dl d) (dr d) r0 (-1) i j = Int64.ofInt (FZ d r0 i * FZ d r0 j * -1) := (x_wZ 0 (by omega) _ (F_m r0 i) _ (F_m r0 j)).2
  have hg := gN_Z g i j
  rw [hw, e, Int64.ofInt_add, ← hg]
theorem gS1_Z (g : vG d U) {r0 k0 : Nat} (hr : r0 < dn d) (hk : k0 < tkF (dt d) r0) (i : Nat) : gS1 (dn d) (ds d) (dl d) (dr d) (dt d) (dm d) r0 k0 i = Int64.ofInt (BZ (FZ d) (Y1 d r0 k0) (dn d) i) := by
  have e : BZ (FZ d) (Y1 d r0 k0) (dn d) i = BZ (FZ d) (YZ d) (dn d) i + FZ d r0 i * -yZ d r0 k0 := by
    have h := sZ_1 (f := fun r => FZ d r i * -yZ d r k0) (r := r0) (dn d) hr
    unfold BZ
    rw [← h, ← sZ_add]
    exact sZ_c _ (fun r _ => by
      show FZ d r i * (YZ d r + if r = r0 then -yZ d r k0 else 0) = FZ d r i * YZ d r + if r = r0 then FZ d r i * -yZ d r k0 else 0
      by_cases c : r = r0
      · rw [if_pos c, if_pos c]
        grind
      · rw [if_neg c, if_neg c]
        grind)
  have a := g.2.2.1 r0 hr k0 hk
  have hw : wS (ds d) (dl d) (dr d) r0 (-1) (-dm d (6 * r0 + k0)) i = Int64.ofInt (FZ d r0 i * -yZ d r0 k0) := by
    show (fcF (dl d) (dr d) r0 (nI i)).toInt64 * ((-dm d (6 * r0 + k0)).toInt64 - (-1 : Int32).toInt64 * (sgF (dl d) (dr d) r0 0).toInt64 * (ds d).toInt64) = _
    rw [i32_neg ⟨by omega, by omega⟩, show (-1 : Int32).toInt64 = Int64.ofInt (-1) from rfl, ← Int64.ofInt_int32ToInt, ← Int64.ofInt_int32ToInt, ← Int64.ofInt_int32ToInt, ← Int64.ofInt_int32ToInt, ← Int64.ofInt_neg, ← Int64.ofInt_mul, ← Int64.ofInt_mul, ← Int64.ofInt_sub, ← Int64.ofInt_mul]
    refine congrArg Int64.ofInt ?_
    unfold FZ yZ
    grind
  unfold gS1
  have hg := gS_Z g i
  rw [hw, e, Int64.ofInt_add, ← hg]
/-! residuals and their sums -/
theorem de_Z (g : vG d U) : deD d U = Int64.ofInt (dZ U (NZ (FZ d) (TZ d) (dn d))) := (dt_en g.2.1.2 (gN_Z g) (gS_Z g)).1
def nuZ (d : DD) (U j : Nat) : Int := dZ U (coR (NZ (FZ d) (TZ d) (dn d)) (BZ (FZ d) (YZ d) (dn d)) j)
theorem nu_Z (g : vG d U) {a : Nat} (ha : a < U) : nuD d U a = Int64.ofInt (nuZ d U a) := (dt_en g.2.1.2 (gN_Z g) (gS_Z g)).2 a ha
def rsZ (d : DD) (U r k : Nat) : Int := dZ U (NZ (FZ d) (TZ d) (dn d)) * yZ d r k - qZ (FZ d) (nuZ d U) U r
theorem rs_Z (g : vG d U) (r k : Nat) : rsD d U r k = Int64.ofInt (rsZ d U r k) := by
  unfold rsD rsF
  have h0 : deD d U * ((dm d (6 * r + k)).toInt64 - (sgF (dl d) (dr d) r 0).toInt64 * (ds d).toInt64) = Int64.ofInt (dZ U (NZ (FZ d) (TZ d) (dn d)) * yZ d r k) := by
    rw [de_Z g, ← Int64.ofInt_int32ToInt, ← Int64.ofInt_int32ToInt, ← Int64.ofInt_int32ToInt, ← Int64.ofInt_mul, ← Int64.ofInt_sub, ← Int64.ofInt_mul]
    rfl
  rw [h0]
  exact fm_Z (x := fun z => (fcF (dl d) (dr d) r (nI z)).toInt64 * nuD d U z) (g := fun z => FZ d r z * nuZ d U z) U (fun z hz => by
    show (fcF (dl d) (dr d) r (nI z)).toInt64 * nuD d U z = _
    rw [nu_Z g hz, ← Int64.ofInt_int32ToInt, ← Int64.ofInt_mul]
    rfl)
theorem bl_Z (g : vG d U) (m : Int32) : blD d U m = Int64.ofInt (sZ (dn d) (fun r => sZ (tkF (dt d) r) (fun k => (sgF (dl d) (dr d) r m).toInt * rsZ d U r k))) := by
  have h := fo_G (g := blF (ds d) (dl d) (dr d) (dt d) (dm d) U (deD d U) (nuD d U) m) (h := fun r => sZ (tkF (dt d) r) (fun k => (sgF (dl d) (dr d) r m).toInt * rsZ d U r k)) (dn d) 0 (fun r _ a => by
    unfold blF
    exact fo_Z (x := fun k => (sgF (dl d) (dr d) r m).toInt64 * rsF (ds d) (dl d) (dr d) (dm d) U (deD d U) (nuD d U) r k) (g := fun k => (sgF (dl d) (dr d) r m).toInt * rsZ d U r k) _ (fun k _ => by
      show (sgF (dl d) (dr d) r m).toInt64 * rsD d U r k = _
      rw [rs_Z g, ← Int64.ofInt_int32ToInt, ← Int64.ofInt_mul]))
  rw [Int.zero_add] at h
  exact h
theorem okF_of (g : vG d U) : okF d U := by
  have hU := g.2.1.2
  have u5 : U ≤ 5 := by omega
  have s0 := sy_0 g
  obtain ⟨D1, D2⟩ := sy_d (U := U) s0
  have nb : ∀ j, j < 5 → (nuZ d U j).natAbs ≤ 54177693696000000 := fun j hj => sy_n s0 hj
  refine ⟨fun h => ?_, fun a ha => ?_, fun i j hi hj => ?_, fun a _ => ?_, fun i j hi hj => ⟨fun h => ?_, fun z hz => ?_⟩, fun i j hi hj => ?_⟩
  · rw [de_Z g] at h ⊢
    rw [oi_t (by omega)]
    have : dZ U (NZ (FZ d) (TZ d) (dn d)) ≠ 0 := fun q => h (by rw [q]; rfl)
    omega
  · rw [nu_Z g ha]
    have := nb a (by omega)
    exact oi_n (by omega)
  · rw [rs_Z g]
    have a := ab_m (x := dZ U (NZ (FZ d) (TZ d) (dn d))) (A := 232190115840) (by omega) (y_b g hi hj)
    have b := sZ_ab (f := fun z => FZ d i z * nuZ d U z) (B := 54177693696000000) U (fun z hz => by
      have := ab_m (F_1 (d := d) i z) (nb z (by omega))
      omega)
    have c : U * 54177693696000000 ≤ 5 * 54177693696000000 := Nat.mul_le_mul_right _ u5
    refine oi_n ?_
    have e : rsZ d U i j = dZ U (NZ (FZ d) (TZ d) (dn d)) * yZ d i j - sZ U (fun z => FZ d i z * nuZ d U z) := rfl
    rw [e]
    have f := ab_s a b
    omega
  · rw [bl_Z g]
    refine oi_n ?_
    have h := ba_i (F := FZ d) (T := TZ d) (Y := YZ d) (n := dn d) (U := U) (t := tkF (dt d)) (y := yZ d) (z := fun r => (sgF (dl d) (dr d) r a).toInt) (D := dZ U (NZ (FZ d) (TZ d) (dn d))) (num := nuZ d U) g.1.1 (fun i hi => cr_s hU hi) D1 (fun r _ => rfl) (fun r hr => (g.t hr).2) (fun r _ => rfl) (fun r k hr hk => y_b g hr hk) (fun r => sg_1 _ _ _ _)
    have e : (sZ (dn d) (fun r => sZ (tkF (dt d) r) (fun k => (sgF (dl d) (dr d) r a).toInt * rsZ d U r k))).natAbs ≤ (72 * (200000 * dZ U (NZ (FZ d) (TZ d) (dn d)) + 1)).natAbs := h
    omega
  · have e : deO d U i = Int64.ofInt (dZ U (NZ (FZ d) (T1 d i) (dn d))) := (dt_en hU (gN1_Z g hi) (gS1_Z g hi hj)).1
    obtain ⟨q1, q2⟩ := sy_d (U := U) (sy_1 g hi hj)
    rw [e] at h ⊢
    rw [oi_t (by omega)]
    have : dZ U (NZ (FZ d) (T1 d i) (dn d)) ≠ 0 := fun q => h (by rw [q]; rfl)
    omega
  · have e : nuO d U i j z = Int64.ofInt (dZ U (coR (NZ (FZ d) (T1 d i) (dn d)) (BZ (FZ d) (Y1 d i j) (dn d)) z)) := (dt_en hU (gN1_Z g hi) (gS1_Z g hi hj)).2 z hz
    rw [e]
    have := sy_n (U := U) (sy_1 g hi hj) (a := z) (by omega)
    exact oi_n (by omega)
  · have a : -600000 ≤ (smF (dm d) (tkF (dt d) i) i).toInt ∧ (smF (dm d) (tkF (dt d) i) i).toInt ≤ 600000 := (sm_L g.1 g.2.2.1 hi).2
    have b : -600000 ≤ (smF (dm d) (tkF (dt d) j) j).toInt ∧ (smF (dm d) (tkF (dt d) j) j).toInt ≤ 600000 := (sm_L g.1 g.2.2.1 hj).2
    obtain ⟨t1, t2⟩ := g.t hi
    obtain ⟨t3, t4⟩ := g.t hj
    unfold mnF
    rw [t1, t3, x_tZ _ t2, x_tZ _ t4, ← Int64.ofInt_int32ToInt, ← Int64.ofInt_int32ToInt, ← Int64.ofInt_mul, ← Int64.ofInt_mul, ← Int64.ofInt_add]
    have p1 := ab_m (x := (smF (dm d) (tkF (dt d) i) i).toInt) (y := (tkF (dt d) j : Int)) (A := 600000) (B := 6) (by omega) (by omega)
    have p2 := ab_m (x := (smF (dm d) (tkF (dt d) j) j).toInt) (y := (tkF (dt d) i : Int)) (A := 600000) (B := 6) (by omega) (by omega)
    have p3 := ab_a p1 p2
    exact oi_n (by omega)
end OK
