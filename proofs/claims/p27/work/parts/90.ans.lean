/-! What the law's questions are answered: rows apart, no two the same -/
def vP (d : DD) : Prop := (∀ r, r < dn d → ((1 ≤ dl d r ∧ dl d r ≤ 31) ∧ 1 ≤ dr d r ∧ dr d r ≤ 31) ∧ dl d r &&& dr d r = 0) ∧ ∀ r s, r < dn d → s < dn d → dl d r = dl d s → dr d r = dr d s → r = s
theorem nf_n {j : Nat} (h : j ≤ 1000) : nfF (nI j) = nI j := if_neg (nI_m1 h)
theorem fnd_of {P : Nat → Bool} {j : Nat} : ∀ (k i : Nat), i ≤ j → j < i + k → P j = true → (∀ z, i ≤ z → z < j → P z = false) → fndN P k i = nI j
  | 0, i, h1, h2, _, _ => absurd h2 (by omega)
  | k + 1, i, h1, h2, h3, h4 => by
    show (if P i = true then nI i else fndN P k (i + 1)) = nI j
    by_cases e : i = j
    · rw [e, if_pos h3]
    · rw [if_neg (by rw [h4 i (Nat.le_refl _) (by omega)]; exact Bool.noConfusion)]
      exact fnd_of k (i + 1) (by omega) (by omega) h3 (fun z h5 h6 => h4 z (by omega) h6)
theorem hB_0 : hB 0 := by decide
theorem hB_1 : hB 1 := by decide
theorem hR_nI {d : DD} {i : Nat} (hn : dn d ≤ 12) (hi : i < dn d) : hR d (nI i) := ⟨nI_pos (by omega), by rw [nI_lt' (by omega) (by omega)]; exact hi⟩
theorem hG_nI {d : DD} {i j : Nat} (v : vD d) (hi : i < dn d) (hj : j < tkF (dt d) i) : hG d (nI i) (nI j) := by
  have hn : dn d ≤ 12 := v.1
  have t1' : dt d i = nI (tkF (dt d) i) := (v.2 i hi).1
  have t2' : tkF (dt d) i ≤ 6 := (v.2 i hi).2
  refine ⟨hR_nI hn hi, nI_pos (by omega), ?_⟩
  rw [cl_nI (by omega)]
  show nI j < dt d i
  rw [t1', nI_lt' (by omega) (by omega)]
  exact hj
theorem sw_of {n : Nat} {lf rf tf : Nat → Int32} {i : Nat} (hn : n ≤ 12) : swF n lf rf tf i = -1 ∨ ∃ j, j < n ∧ swF n lf rf tf i = nI j ∧ lf j = rf i ∧ rf j = lf i ∧ ¬ tf i ≤ 0 ∧ ¬ tf j ≤ 0 := by
  unfold swF
  have hz := fndN_or (P := fun j => decide (lf j = rf i ∧ rf j = lf i)) n 0
  generalize fndN (fun j => decide (lf j = rf i ∧ rf j = lf i)) n 0 = z at hz ⊢
  rcases hz with e | ⟨j, -, hj, hp, e⟩
  · left
    simp [e]
  · have h2 := of_decide_eq_true hp
    have hm := nI_m1 (a := j) (by omega)
    have hcl : (nI j).toNatClampNeg = j := cl_nI (by omega)
    simp only [e, hm, hcl, if_false]
    by_cases a1 : tf i ≤ 0
    · left
      simp [a1]
    · by_cases a2 : tf j ≤ 0
      · left
        simp [a1, a2]
      · right
        exact ⟨j, by omega, by simp [a1, a2], h2.1, h2.2, a1, a2⟩
section AN
variable {d : DD} {U k len : Nat}
theorem rw_a (hn : dn d ≤ 12) {r z : Nat} (hr : r < dn d) (hz : z < 5) : rwA d U (nI r) (nI z) = rwZ d U r z := by
  have hA' : hA (nI z) := by
    rcases (show z = 0 ∨ z = 1 ∨ z = 2 ∨ z = 3 ∨ z = 4 by omega) with rfl | rfl | rfl | rfl | rfl <;> decide
  unfold rwA
  rw [if_pos ⟨hR_nI hn hr, hA'⟩, cl_nI (by omega), cl_nI (by omega)]
theorem cn_a {z : Nat} (hz : z < 14) : cnA d k len U (nI z) = cnZ d k len U z := by
  unfold cnA
  rw [nI_toInt (by omega), if_neg (by omega), cl_nI (by omega)]
theorem fnd_r (p : vP d) {r : Nat} (hr : r < dn d) : fndN (fun j => decide (dl d j = dl d r ∧ dr d j = dr d r)) (dn d) 0 = nI r := fnd_of _ 0 (Nat.zero_le _) (by omega) (decide_eq_true ⟨rfl, rfl⟩) (fun z _ hz => decide_eq_false (fun q => absurd (p.2 z r (by omega) hr q.1 q.2) (by omega)))
theorem fi_r (hn : dn d ≤ 12) (p : vP d) {r : Nat} (hr : r < dn d) : fiA d (dl d r) (dr d r) = nI r := by
  unfold fiA
  rw [if_pos (p.1 r hr).1, fnd_r p hr]
  exact nf_n (by omega)
theorem sw_sy (hn : dn d ≤ 12) (p : vP d) {i j : Nat} (hi : i < dn d) (h1 : dl d j = dr d i) (h2 : dr d j = dl d i) (t1 : ¬ dt d i ≤ 0) (t2 : ¬ dt d j ≤ 0) : swF (dn d) (dl d) (dr d) (dt d) j = nI i := by
  unfold swF
  rw [h1, h2, fnd_r p hi]
  have hm := nI_m1 (a := i) (by omega)
  have hcl : (nI i).toNatClampNeg = i := cl_nI (by omega)
  simp only [hm, hcl, if_neg t1, if_neg t2, if_false]
theorem mn_c (i j : Nat) : mnF (dt d) (dm d) j i = mnF (dt d) (dm d) i j := Int64.add_comm _ _
theorem md_c (i j : Nat) : mdF (dt d) j i = mdF (dt d) i j := Int64.mul_comm _ _
theorem pb_a (hn : dn d ≤ 12) {i j : Nat} {t : Int32} (hi : i < dn d) (hj : j < dn d) (h : swF (dn d) (dl d) (dr d) (dt d) i = nI j) (ht : hB t) : pbA d (nI i) t = prt t (mnF (dt d) (dm d) i j) (2 * mdF (dt d) i j) := by
  unfold pbA
  rw [if_pos ⟨hR_nI hn hi, ht⟩, cl_nI (by omega), h, if_neg (nI_m1 (by omega)), cl_nI (by omega)]
/-- what the law asks of a row's fellow: none, or told alike -/
theorem sw_al (hn : dn d ≤ 12) (p : vP d) {i : Nat} (hi : i < dn d) : (rwZ d U i 3 = -2000000004) ∨ ∃ j, j < dn d ∧ rwZ d U i 3 = nI j ∧ rwZ d U j 3 = nI i ∧ ∀ t, hB t → pbA d (nI j) t = pbA d (nI i) t := by
  rcases sw_of (n := dn d) (lf := dl d) (rf := dr d) (tf := dt d) (i := i) hn with e | ⟨j, hj, e, h1, h2, t1, t2⟩
  · left
    show nfF (swF (dn d) (dl d) (dr d) (dt d) i) = _
    rw [e]
    rfl
  · have e2 := sw_sy hn p hi h1 h2 t1 t2
    refine Or.inr ⟨j, hj, ?_, ?_, fun t ht => ?_⟩
    · show nfF (swF (dn d) (dl d) (dr d) (dt d) i) = _
      rw [e]
      exact nf_n (by omega)
    · show nfF (swF (dn d) (dl d) (dr d) (dt d) j) = _
      rw [e2]
      exact nf_n (by omega)
    · rw [pb_a hn hj hi e2 ht, pb_a hn hi hj e ht, mn_c, md_c]
/-- a row without readings isn't needed -/
theorem need_t (v : vD d) (hU : U = 4 ∨ U = 5) {r : Nat} (hr : r < dn d) (h : ¬ deD d U = 0 ∧ deX d U r = 0) : 0 < tkF (dt d) r := by
  rcases Nat.eq_zero_or_pos (tkF (dt d) r) with e | e
  · have t1 : dt d r = nI (tkF (dt d) r) := (v.2 r hr).1
    rw [e] at t1
    have e2 : deX d U r = deD d U := dtF_congr hU (fun i j _ _ => by
      unfold gNx wN
      rw [t1]
      show _ + (fcF (dl d) (dr d) r (nI i) * fcF (dl d) (dr d) r (nI j) * (-0)).toInt64 = _
      rw [Int32.neg_zero, Int32.mul_zero]
      exact Int64.add_zero _)
    rw [e2] at h
    exact absurd h.2 h.1
  · exact e
theorem tk_s (v : vD d) : ∀ k, k ≤ dn d → foldN (fun a j => a + dt d j) k 0 0 = nI (foldN (fun a j => a + tkF (dt d) j) k 0 0) ∧ foldN (fun a j => a + tkF (dt d) j) k 0 0 ≤ 6 * k ∧ sZ k (TZ d) = (foldN (fun a j => a + tkF (dt d) j) k 0 0 : Nat)
  | 0, _ => ⟨rfl, Nat.le_refl _, rfl⟩
  | k + 1, hk => by
    obtain ⟨h1, h2, h3⟩ := tk_s v k (by omega)
    obtain ⟨t1, t2⟩ := v.2 k (show k < dn d by omega)
    rw [foldN_snoc, foldN_snoc, Nat.zero_add, h1]
    have hn : dn d ≤ 12 := v.1
    have t1' : dt d k = nI (tkF (dt d) k) := t1
    have t2' : tkF (dt d) k ≤ 6 := t2
    refine ⟨?_, by omega, ?_⟩
    · rw [t1', nI_add]
    · show sZ k (TZ d) + TZ d k = _
      rw [h3]
      unfold TZ
      omega
/-- a whole design has at least as many readings as unknown numbers -/
theorem many (g : vG d U) (h : ¬ deD d U = 0) : 4 + dp d ≤ foldN (fun a j => a + dt d j) (dn d) 0 0 := by
  have v : vD d := g.1
  have hn : dn d ≤ 12 := v.1
  have hU := g.2.1.2
  obtain ⟨h1, h2, h3⟩ := tk_s v (dn d) (Nat.le_refl _)
  have hp : 4 + dp d = nI U := g.2.1.1
  rw [h1, hp, nI_le' (by omega) (by omega)]
  rcases Nat.lt_or_ge (foldN (fun a j => a + tkF (dt d) j) (dn d) 0 0) U with q | q
  · have z := few (F := FZ d) (T := TZ d) (n := dn d) hU (fun r _ => by unfold TZ; omega) (by rw [h3]; omega)
    rw [de_Z g, z] at h
    exact absurd rfl h
  · exact q
theorem FZ_m {m : Nat} (hm : 1 ≤ m ∧ m ≤ 4) (r : Nat) : (sgF (dl d) (dr d) r (nI m)).toInt = FZ d r (m - 1) := by
  unfold FZ fcF
  rcases (show m = 1 ∨ m = 2 ∨ m = 3 ∨ m = 4 by omega) with rfl | rfl | rfl | rfl <;> rfl
/-- residuals cancel by unknown masses -/
theorem bl_0 (g : vG d U) {m : Nat} (hm : 1 ≤ m ∧ m ≤ 4) : blD d U (nI m) = 0 := by
  have hU := g.2.1.2
  rw [bl_Z g]
  have e : sZ (dn d) (fun r => sZ (tkF (dt d) r) (fun k => (sgF (dl d) (dr d) r (nI m)).toInt * rsZ d U r k)) = sZ (dn d) (fun r => FZ d r (m - 1) * (dZ U (NZ (FZ d) (TZ d) (dn d)) * YZ d r - TZ d r * qZ (FZ d) (nuZ d U) U r)) := sZ_c _ (fun r _ => by
    rw [FZ_m hm, sZ_mul]
    unfold rsZ
    rw [w_1]
    rfl)
  have z := w_2 (F := FZ d) (T := TZ d) (Y := YZ d) (n := dn d) (U := U) (D := dZ U (NZ (FZ d) (TZ d) (dn d))) (num := nuZ d U) (fun i hi => cr_s hU hi) (i := m - 1) (by omega)
  rw [e, z]
  rfl
theorem cd_p {x D : Int64} (hd : 0 < D.toInt) (hx : x.toInt ≠ -9223372036854775808) : 0 < (prt 1 x D).toInt := by
  have h := cd_gcd (d := D) hd hx
  have g0 : 0 < Int.gcd D.toInt x.toInt := Int.gcd_pos_of_ne_zero_left _ (by omega)
  have g1 : (Int.gcd D.toInt x.toInt : Int) ≤ D.toInt := Int.le_of_dvd hd (Int.gcd_dvd_left ..)
  show 0 < (if (1 : Int32) = 0 then x / cdF D x else D / cdF D x).toInt
  rw [if_neg (by decide), Int64.toInt_div, h, Int.tdiv_eq_ediv_of_nonneg (by omega)]
  have h1 : 1 ≤ D.toInt / (Int.gcd D.toInt x.toInt : Int) := by
    rw [Int.le_ediv_iff_mul_le (by omega)]
    omega
  have h2 : D.toInt / (Int.gcd D.toInt x.toInt : Int) ≤ D.toInt := Int.ediv_le_self _ (by omega)
  have h3 : D.toInt < 9223372036854775808 := Int64.toInt_lt D
  rw [bm64 (by omega) (by omega)]
  omega
theorem ba_0 (g : vG d U) (h : ¬ deD d U = 0) {m : Nat} (hm : 1 ≤ m ∧ m ≤ 4) : baA d U (nI m) 0 = 0 ∧ baA d U (nI m) 1 = 1 := by
  have hA' : hA (nI m) := by
    rcases (show m = 1 ∨ m = 2 ∨ m = 3 ∨ m = 4 by omega) with rfl | rfl | rfl | rfl <;> decide
  have hd := (okF_of g).1 h
  unfold baA
  rw [if_pos ⟨hA', hB_0⟩, if_neg h, if_pos ⟨hA', hB_1⟩, if_neg h, bl_0 g hm, prt_0 hd, prt_0 hd]
  exact ⟨by decide +kernel, by decide +kernel⟩
theorem hA_m {m : Nat} (hm : m ≤ 4) : hA (nI m) := by
  rcases (show m = 0 ∨ m = 1 ∨ m = 2 ∨ m = 3 ∨ m = 4 by omega) with rfl | rfl | rfl | rfl | rfl <;> decide
theorem va_n (h : deD d U = 0) {m : Nat} (hm : m ≤ 4) : vaA d U (nI m) 0 = -2000000002 := by
  unfold vaA
  rw [if_pos ⟨hA_m hm, hB_0⟩, if_pos h]
theorem va_a (h : ¬ deD d U = 0) {m : Nat} (hm : 1 ≤ m ∧ m ≤ 4) {t : Int32} (ht : hB t) : vaA d U (nI m) t = prt t (nuD d U (m - 1)) (deD d U) := by
  unfold vaA
  rw [if_pos ⟨hA_m hm.2, ht⟩, if_neg h, if_neg (fun q => ?_), cl_nI (by omega)]
  have := (nI_eq' (a := m) (b := 0) (by omega) (by omega)).mp q
  omega
theorem va_1 (g : vG d U) (h : ¬ deD d U = 0) {m : Nat} (hm : 1 ≤ m ∧ m ≤ 4) : 0 < (vaA d U (nI m) 1).toInt := by
  rw [va_a h hm hB_1]
  have hU := g.2.1.2
  exact cd_p ((okF_of g).1 h) ((okF_of g).2.1 _ (by omega))
end AN
