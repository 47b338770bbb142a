/-! Both sides change alike -/
theorem rk_of_rc {m m2 : xM} {f : Nat → Int32} (h : rcM m m2) : rkM m (m2.s_df f) := by
  obtain ⟨-, h2, h3, h4, h5, h6, h7⟩ := h
  unfold rkM
  simp only [s_df_df, s_df_wf, s_df_st, s_df_af, s_df_cf, s_df_ty, s_df_pa, s_df_le, s_df_ri, s_df_re, s_df_rs, s_df_nf, s_df_wr, s_df_wd, s_df_mf, s_df_vf, s_df_be, s_df_fa, s_df_up, s_df_dn]
  exact ⟨h2, h3, h4, h5, h6, h7⟩
section PC
variable {w w2 : xW} {d d2 : DD} {k k2 len n n2 U U2 : Nat} {H H2 : Nat → DD} {cf : Nat → Int32} {m m3 : xM} {L : Nat} {sc : Nat → Int32}
theorem rel.chg (R : rel w d k H cf len m n U) (C2 : cW w2 d2 k2 H2 cf len) (r : reC d k H k2 H2) (D2 : isM w2 m3) (rc : rkM m m3) (g2 : vG d2 U2) (v2 : vM m3.df n2) (E2 : eqD (dOf n2 m3.df) d2) : rel w2 d2 k2 H2 cf len m3 n2 U2 := by
  obtain ⟨C, D, g, hk, vx, v, E, hs, hi, hc, ht, hw, hd⟩ := R
  obtain ⟨q1, q2, q3, q4, q5, q6⟩ := rc
  obtain ⟨a1, a2, a3⟩ := hi_rec hi v E g hk hs r q5 q6
  exact ⟨C2, D2, g2, a2, vx, v2, E2, a1.symm, a3, q1.trans hc, q2.trans ht, q3.trans hw, q4.trans hd⟩
theorem rel.ls (R : rel w d k H cf len m n U) (C2 : cW w2 d k H cf len) (D2 : isM w2 m3) (h : ∀ z, z < 112 → m3.df z = m.df z) (q : lsM m m3) : rel w2 d k H cf len m3 n U := by
  obtain ⟨C, D, g, hk, vx, v, E, hs, hi, hc, ht, hw, hd⟩ := R
  obtain ⟨q1, q2, q3, q4, q5, q6⟩ := q
  obtain ⟨f1, f2⟩ := dO_112 h v
  exact ⟨C2, D2, g, hk, vx, f2, f1.tr E, q2.trans hs, by rw [q1]; exact hi, q3.trans hc, q4.trans ht, q5.trans hw, q6.trans hd⟩
theorem rel.en (R : rel w d k H cf len m n U) : n = dn d := R.eq.s.2.2.2
theorem rel.s5 (R : rel w d k H cf len m n U) : m.st ≤ 5 := by
  obtain ⟨C, D, g, hk, vx, v, E, hs, hi, hc, ht, hw, hd⟩ := R
  omega
theorem nI_ij {i j : Nat} (hi : i ≤ 1000) (hj : j ≤ 1000) {r : Int32} (h1 : r = nI i) (h2 : r = nI j) : i = j := (nI_eq' hi hj).mp (h1.symm.trans h2)
theorem p58 (R : REL L sc w) {s x : Int32} : PI 58 111 [.ref 0, .int s, .int x, x_no] [.ref 51, .int s, .int x, x_no] L sc w := by
  obtain ⟨e, d, k, H, cf, len, m, n, U, R⟩ := R
  intro b
  refine c58 R.1 R.vc (fun q => ⟨e, R.o51w, _, rfl, fun b2 => c111 R.2.1 R.s5 (fun _ => ⟨rfl, R.xREL e⟩) (fun w2 m2 q1 _ _ _ => absurd q1 q)⟩) (fun w1 k2 H2 ok f1 C1 r => ⟨f1.2.1.trans e, R.o51 f1, _, rfl, fun b2 => ?_⟩)
  obtain ⟨v2, E2, eg⟩ := eq_st R.eq ok R.2.2.2.2.2.1
  obtain ⟨U2, g2⟩ := vG_st R.2.2.1 ok
  refine c111 (R.2.1.fr f1 (Or.inr (Nat.le_refl _))) R.s5 (fun q => absurd ok q) (fun w2 m2 _ f2 rc D2 => ⟨by rw [eg], ?_⟩)
  exact (R.chg (C1.fx f2 (Nat.le_refl _)) r D2 (rk_of_rc rc) g2 (by simp only [s_df_df, s_df_wf, s_df_st, s_df_af, s_df_cf, s_df_ty, s_df_pa, s_df_le, s_df_ri, s_df_re, s_df_rs, s_df_nf, s_df_wr, s_df_wd, s_df_mf, s_df_vf, s_df_be, s_df_fa, s_df_up, s_df_dn]; exact v2) (by simp only [s_df_df, s_df_wf, s_df_st, s_df_af, s_df_cf, s_df_ty, s_df_pa, s_df_le, s_df_ri, s_df_re, s_df_rs, s_df_nf, s_df_wr, s_df_wd, s_df_mf, s_df_vf, s_df_be, s_df_fa, s_df_up, s_df_dn]; exact E2)).xREL (f2.2.1.trans (f1.2.1.trans e))
theorem p59 (R : REL L sc w) {x y : Int32} : PI 59 114 [.ref 0, .int x, .int y] [.ref 51, .int x, .int y] L sc w := by
  obtain ⟨e, d, k, H, cf, len, m, n, U, R⟩ := R
  intro b
  have en := R.en
  have v := R.2.2.2.2.2.1
  have ef : fndN (fun j => decide (lD m.df j = x ∧ rD m.df j = y)) n 0 = fndN (fun j => decide (dl d j = x ∧ dr d j = y)) (dn d) 0 := by
    rw [en]
    exact agD.fnd R.eq.2 x y
  refine c59 R.1 R.vc (fun q => ⟨e, R.o51w, _, rfl, fun b2 => ?_⟩) (fun q1 q2 => ⟨e, R.o51w, _, rfl, fun b2 => ?_⟩) (fun q1 q2 q3 => ⟨e, R.o51w, _, rfl, fun b2 => ?_⟩) (fun w1 k2 H2 q1 q2 q3 f1 C1 r => ⟨f1.2.1.trans e, R.o51 f1, _, rfl, fun b2 => ?_⟩)
  · exact c114 R.2.1 v R.s5 (fun _ => ⟨rfl, R.xREL e⟩) (fun q1 _ => absurd q1 q) (fun q1 _ _ => absurd q1 q) (fun w2 m2 q1 _ _ _ _ _ => absurd q1 q)
  · rw [← ef] at q2
    exact c114 R.2.1 v R.s5 (fun q => absurd q1 q) (fun _ _ => ⟨rfl, R.xREL e⟩) (fun _ q _ => absurd q q2) (fun w2 m2 _ q _ _ _ _ => absurd q q2)
  · rw [← ef] at q2
    exact c114 R.2.1 v R.s5 (fun q => absurd q1 q) (fun _ q => absurd q2 q) (fun _ _ _ => ⟨rfl, R.xREL e⟩) (fun w2 m2 _ _ q _ _ _ => absurd q (by omega))
  · rw [← ef] at q2
    refine c114 (R.2.1.fr f1 (Or.inr (Nat.le_refl _))) v R.s5 (fun q => absurd q1 q) (fun _ q => absurd q2 q) (fun _ _ q => absurd q (by omega)) (fun w2 m2 _ _ _ f2 rc D2 => ⟨by rw [en], ?_⟩)
    have E2 := eq_ap (x := x) (y := y) R.eq (by omega)
    have v2 := vM_ad (x := x) (y := y) v (by omega)
    have g2 := vG_ap R.2.2.1 q3 (x_msk q1.1) (x_msk q1.2.1)
    exact (R.chg (C1.fx f2 (Nat.le_refl _)) r D2 (rk_of_rc rc) g2 (by simp only [s_df_df, s_df_wf, s_df_st, s_df_af, s_df_cf, s_df_ty, s_df_pa, s_df_le, s_df_ri, s_df_re, s_df_rs, s_df_nf, s_df_wr, s_df_wd, s_df_mf, s_df_vf, s_df_be, s_df_fa, s_df_up, s_df_dn]; exact v2) (by simp only [s_df_df, s_df_wf, s_df_st, s_df_af, s_df_cf, s_df_ty, s_df_pa, s_df_le, s_df_ri, s_df_re, s_df_rs, s_df_nf, s_df_wr, s_df_wd, s_df_mf, s_df_vf, s_df_be, s_df_fa, s_df_up, s_df_dn]; exact E2)).xREL (f2.2.1.trans (f1.2.1.trans e))
theorem p60 (R : REL L sc w) {r : Int32} : PI 60 115 [.ref 0, .int r] [.ref 51, .int r, x_no, x_no] L sc w := by
  obtain ⟨e, d, k, H, cf, len, m, n, U, R⟩ := R
  intro b
  have en := R.en
  have hn := R.hn
  have v := R.2.2.2.2.2.1
  refine c60 R.1 R.vc (fun q => ⟨e, R.o51w, _, rfl, fun b2 => ?_⟩) (fun i w1 d2 k2 H2 hi er f1 C1 E1 rc1 => ⟨f1.2.1.trans e, R.o51 f1, _, rfl, fun b2 => ?_⟩)
  · rw [← en] at q
    refine c115 R.2.1 v R.s5 (fun _ => ⟨rfl, R.xREL e⟩) (fun i k' w2 m2 f2 h1 h2 h3 _ _ _ _ => absurd (show ¬ r < 0 ∧ r < nI n from ?_) q)
    rw [h3]
    exact ⟨nI_pos (by omega), (nI_lt' (by omega) (by omega)).mpr (by omega)⟩
  · refine c115 (R.2.1.fr f1 (Or.inr (Nat.le_refl _))) v R.s5 (fun q => absurd ⟨by rw [er]; exact nI_pos (by omega), by rw [er, en]; exact (nI_lt' (by omega) (by omega)).mpr hi⟩ q) (fun i' k' w2 m2 g h1 h2 h3 f2 rc D2 h4 => ⟨by rw [show dn d - 1 = k' by omega], ?_⟩)
    have ei : i' = i := nI_ij (by omega) (by omega) h3 er
    subst ei
    subst h1
    obtain ⟨a1, a2⟩ := eq_dw R.eq R.vd h2 h4
    have E2 : eqD (dOf k' g) d2 := a2.tr E1.sy
    have g2 : vG d2 U := vG_eq E1 (vG_dw R.2.2.1 hi)
    have v2 : vM g k' := ⟨a1, (E2.v g2.1)⟩
    exact (R.chg (C1.fx f2 (Nat.le_refl _)) rc1 D2 (rk_of_rc rc) g2 (by simp only [s_df_df, s_df_wf, s_df_st, s_df_af, s_df_cf, s_df_ty, s_df_pa, s_df_le, s_df_ri, s_df_re, s_df_rs, s_df_nf, s_df_wr, s_df_wd, s_df_mf, s_df_vf, s_df_be, s_df_fa, s_df_up, s_df_dn]; exact v2) (by simp only [s_df_df, s_df_wf, s_df_st, s_df_af, s_df_cf, s_df_ty, s_df_pa, s_df_le, s_df_ri, s_df_re, s_df_rs, s_df_nf, s_df_wr, s_df_wd, s_df_mf, s_df_vf, s_df_be, s_df_fa, s_df_up, s_df_dn]; exact E2)).xREL (f2.2.1.trans (f1.2.1.trans e))
theorem p61 (R : REL L sc w) {r x : Int32} : PI 61 117 [.ref 0, .int r, .int x] [.ref 51, .int r, .int x] L sc w := by
  obtain ⟨e, d, k, H, cf, len, m, n, U, R⟩ := R
  intro b
  have en := R.en
  have hn := R.hn
  have v := R.2.2.2.2.2.1
  have ek : ∀ i, i < dn d → tkF (tD m.df) i = tkF (dt d) i := fun i hi => agD.tk R.eq.2 hi
  have ok : ∀ i, i < dn d → r = nI i → ¬ r < 0 ∧ r < nI n := fun i hi er => by
    rw [er, en]
    exact ⟨nI_pos (by omega), (nI_lt' (by omega) (by omega)).mpr hi⟩
  refine c61 R.1 R.vc (fun q => ⟨e, R.o51w, _, rfl, fun b2 => ?_⟩) (fun i hi er hx h6 => ⟨e, R.o51w, _, rfl, fun b2 => ?_⟩) (fun i w1 k2 H2 hi er hx h6 f1 C1 r1 => ⟨f1.2.1.trans e, R.o51 f1, _, rfl, fun b2 => ?_⟩)
  · rw [← en] at q
    exact c117 R.2.1 v R.s5 (fun _ => ⟨rfl, R.xREL e⟩) (fun i hi er hx _ => absurd ⟨ok i (by omega) er, hx⟩ q) (fun i w2 m2 hi er hx _ _ _ _ => absurd ⟨ok i (by omega) er, hx⟩ q)
  · refine c117 R.2.1 v R.s5 (fun q => absurd ⟨ok i hi er, hx⟩ q) (fun i _ _ _ _ => ⟨rfl, R.xREL e⟩) (fun i' w2 m2 hi' er' _ h6' _ _ _ => ?_)
    have ei : i' = i := nI_ij (by omega) (by omega) er' er
    rw [ei, ek i hi] at h6'
    omega
  · refine c117 (R.2.1.fr f1 (Or.inr (Nat.le_refl _))) v R.s5 (fun q => absurd ⟨ok i hi er, hx⟩ q) (fun i' hi' er' _ h6' => ?_) (fun i' w2 m2 hi' er' _ h6' f2 rc D2 => ?_)
    · have ei : i' = i := nI_ij (by omega) (by omega) er' er
      rw [ei, ek i hi] at h6'
      omega
    · have ei : i' = i := nI_ij (by omega) (by omega) er' er
      subst ei
      have E2 := eq_tk (x := x) R.eq R.vd hi h6
      have v2 := vM_tc (a := x) v hi' h6'
      have g2 := vG_tk R.2.2.1 hi h6 (x_rg hx)
      exact ⟨by rw [ek i' hi], (R.chg (C1.fx f2 (Nat.le_refl _)) r1 D2 (rk_of_rc rc) g2 (by simp only [s_df_df, s_df_wf, s_df_st, s_df_af, s_df_cf, s_df_ty, s_df_pa, s_df_le, s_df_ri, s_df_re, s_df_rs, s_df_nf, s_df_wr, s_df_wd, s_df_mf, s_df_vf, s_df_be, s_df_fa, s_df_up, s_df_dn]; exact v2) (by simp only [s_df_df, s_df_wf, s_df_st, s_df_af, s_df_cf, s_df_ty, s_df_pa, s_df_le, s_df_ri, s_df_re, s_df_rs, s_df_nf, s_df_wr, s_df_wd, s_df_mf, s_df_vf, s_df_be, s_df_fa, s_df_up, s_df_dn]; exact E2)).xREL (f2.2.1.trans (f1.2.1.trans e))⟩
theorem p62 (R : REL L sc w) {r q : Int32} : PI 62 118 [.ref 0, .int r, .int q] [.ref 51, .int r, .int q, x_no] L sc w := by
  obtain ⟨e, d, k, H, cf, len, m, n, U, R⟩ := R
  intro b
  have en := R.en
  have hn := R.hn
  have v := R.2.2.2.2.2.1
  have hg : hG (dOf n m.df) r q ↔ hG d r q := R.eq.xhG hn
  refine c62 R.1 R.vc (fun c => ⟨e, R.o51w, _, rfl, fun b2 => ?_⟩) (fun i j t w1 mf2 k2 H2 hi er eq hj h6 ht f1 C1 em r1 => ⟨f1.2.1.trans e, R.o51 f1, _, rfl, fun b2 => ?_⟩)
  · refine c118 R.2.1 v R.s5 (fun _ => ⟨rfl, R.xREL e⟩) (fun i j t w2 m2 f2 hi er eq hj h6 ht _ _ _ _ => absurd (show hG d r q from hg.mp ?_) c)
    have et : tkF (dt (dOf n m.df)) i = t + 1 := by
      show (m.df (28 + i)).toNatClampNeg = t + 1
      rw [ht]
      exact cl_nI (by omega)
    exact (hG_of (e := dOf n m.df) v.2 hi (by rw [et]; omega) er eq).1
  · have et : tkF (dt d) i = t + 1 := by
      show (dt d i).toNatClampNeg = t + 1
      rw [ht]
      exact cl_nI (by omega)
    have gg := (hG_of (e := d) R.vd hi (show j < tkF (dt d) i by omega) er eq).1
    refine c118 (R.2.1.fr f1 (Or.inr (Nat.le_refl _))) v R.s5 (fun c => absurd (show hG (dOf n m.df) r q from hg.mpr gg) c) (fun i' j' t' w2 m2 g hi' er' eq' hj' h6' ht' f2 rc D2 h4 => ?_)
    have ei : i' = i := nI_ij (by omega) (by omega) er' er
    have ej : j' = j := nI_ij (by omega) (by omega) eq' eq
    subst ei
    subst ej
    have e3 : m.df (28 + i') = dt d i' := (R.eq.row hi).2.2.1
    have e4 : t' = t := by
      rw [e3, ht] at ht'
      have := (nI_eq' (by omega) (by omega)).mp ht'
      omega
    subst e4
    obtain ⟨a1, E2⟩ := eq_dr R.eq R.vd hi ht h6 hj h4 em
    have g2 := vG_dr R.2.2.1 hi ht h6 hj em
    have v2 : vM g n := ⟨a1.trans v.1, (E2.v g2.1)⟩
    exact ⟨rfl, (R.chg (C1.fx f2 (Nat.le_refl _)) r1 D2 (rk_of_rc rc) g2 (by simp only [s_df_df, s_df_wf, s_df_st, s_df_af, s_df_cf, s_df_ty, s_df_pa, s_df_le, s_df_ri, s_df_re, s_df_rs, s_df_nf, s_df_wr, s_df_wd, s_df_mf, s_df_vf, s_df_be, s_df_fa, s_df_up, s_df_dn]; exact v2) (by simp only [s_df_df, s_df_wf, s_df_st, s_df_af, s_df_cf, s_df_ty, s_df_pa, s_df_le, s_df_ri, s_df_re, s_df_rs, s_df_nf, s_df_wr, s_df_wd, s_df_mf, s_df_vf, s_df_be, s_df_fa, s_df_up, s_df_dn]; exact E2)).xREL (f2.2.1.trans (f1.2.1.trans e))⟩
theorem p67 (R : REL L sc w) : PI 67 128 [.ref 0] [.ref 51, x_no] L sc w := by
  obtain ⟨e, d, k, H, cf, len, m, n, U, R⟩ := R
  intro b
  obtain ⟨C, D, g, hk, vx, v, E, hs, hi, hc, ht, hw, hd⟩ := id R
  refine c67 R.1 R.vc (fun c => ⟨e, R.o51w, _, rfl, fun b2 => ?_⟩) (fun k2 w1 d2 ek f1 C1 E1 => ⟨f1.2.1.trans e, R.o51 f1, _, rfl, fun b2 => ?_⟩)
  · exact c128 R.2.1 R.s5 (fun _ => ⟨rfl, R.xREL e⟩) (fun st w2 f2 h1 _ _ _ => by omega)
  · refine c128 (R.2.1.fr f1 (Or.inr (Nat.le_refl _))) R.s5 (fun h => by omega) (fun st w2 g2 h1 f2 D2 h2 => ?_)
    have es : st = k2 := by omega
    subst es
    obtain ⟨⟨U2, gH⟩, nj, vj, Ej⟩ := hi st (by omega)
    obtain ⟨b1, b2⟩ := dO_112 h2 vj
    refine ⟨rfl, f2.2.1.trans (f1.2.1.trans e), d2, st, H, cf, len, (m.s_st st).s_df g2, nj, U2, ?_⟩
    exact ⟨C1.fx f2 (Nat.le_refl _), D2, vG_eq E1 gH, by omega, vx, by simp only [s_df_df, s_df_wf, s_df_st, s_df_af, s_df_cf, s_df_ty, s_df_pa, s_df_le, s_df_ri, s_df_re, s_df_rs, s_df_nf, s_df_wr, s_df_wd, s_df_mf, s_df_vf, s_df_be, s_df_fa, s_df_up, s_df_dn]; exact b2, by simp only [s_df_df, s_df_wf, s_df_st, s_df_af, s_df_cf, s_df_ty, s_df_pa, s_df_le, s_df_ri, s_df_re, s_df_rs, s_df_nf, s_df_wr, s_df_wd, s_df_mf, s_df_vf, s_df_be, s_df_fa, s_df_up, s_df_dn]; exact (b1.tr Ej).tr E1.sy, by simp only [s_df_df, s_df_wf, s_df_st, s_df_af, s_df_cf, s_df_ty, s_df_pa, s_df_le, s_df_ri, s_df_re, s_df_rs, s_df_nf, s_df_wr, s_df_wd, s_df_mf, s_df_vf, s_df_be, s_df_fa, s_df_up, s_df_dn, s_st_df, s_st_wf, s_st_st, s_st_af, s_st_cf, s_st_ty, s_st_pa, s_st_le, s_st_ri, s_st_re, s_st_rs, s_st_nf, s_st_wr, s_st_wd, s_st_mf, s_st_vf, s_st_be, s_st_fa, s_st_up, s_st_dn], by simp only [s_df_df, s_df_wf, s_df_st, s_df_af, s_df_cf, s_df_ty, s_df_pa, s_df_le, s_df_ri, s_df_re, s_df_rs, s_df_nf, s_df_wr, s_df_wd, s_df_mf, s_df_vf, s_df_be, s_df_fa, s_df_up, s_df_dn, s_st_df, s_st_wf, s_st_st, s_st_af, s_st_cf, s_st_ty, s_st_pa, s_st_le, s_st_ri, s_st_re, s_st_rs, s_st_nf, s_st_wr, s_st_wd, s_st_mf, s_st_vf, s_st_be, s_st_fa, s_st_up, s_st_dn]; exact fun j hj => hi j (by omega), by simp only [s_df_df, s_df_wf, s_df_st, s_df_af, s_df_cf, s_df_ty, s_df_pa, s_df_le, s_df_ri, s_df_re, s_df_rs, s_df_nf, s_df_wr, s_df_wd, s_df_mf, s_df_vf, s_df_be, s_df_fa, s_df_up, s_df_dn, s_st_df, s_st_wf, s_st_st, s_st_af, s_st_cf, s_st_ty, s_st_pa, s_st_le, s_st_ri, s_st_re, s_st_rs, s_st_nf, s_st_wr, s_st_wd, s_st_mf, s_st_vf, s_st_be, s_st_fa, s_st_up, s_st_dn]; exact hc, by simp only [s_df_df, s_df_wf, s_df_st, s_df_af, s_df_cf, s_df_ty, s_df_pa, s_df_le, s_df_ri, s_df_re, s_df_rs, s_df_nf, s_df_wr, s_df_wd, s_df_mf, s_df_vf, s_df_be, s_df_fa, s_df_up, s_df_dn, s_st_df, s_st_wf, s_st_st, s_st_af, s_st_cf, s_st_ty, s_st_pa, s_st_le, s_st_ri, s_st_re, s_st_rs, s_st_nf, s_st_wr, s_st_wd, s_st_mf, s_st_vf, s_st_be, s_st_fa, s_st_up, s_st_dn]; exact ht, by simp only [s_df_df, s_df_wf, s_df_st, s_df_af, s_df_cf, s_df_ty, s_df_pa, s_df_le, s_df_ri, s_df_re, s_df_rs, s_df_nf, s_df_wr, s_df_wd, s_df_mf, s_df_vf, s_df_be, s_df_fa, s_df_up, s_df_dn, s_st_df, s_st_wf, s_st_st, s_st_af, s_st_cf, s_st_ty, s_st_pa, s_st_le, s_st_ri, s_st_re, s_st_rs, s_st_nf, s_st_wr, s_st_wd, s_st_mf, s_st_vf, s_st_be, s_st_fa, s_st_up, s_st_dn]; exact hw, by simp only [s_df_df, s_df_wf, s_df_st, s_df_af, s_df_cf, s_df_ty, s_df_pa, s_df_le, s_df_ri, s_df_re, s_df_rs, s_df_nf, s_df_wr, s_df_wd, s_df_mf, s_df_vf, s_df_be, s_df_fa, s_df_up, s_df_dn, s_st_df, s_st_wf, s_st_st, s_st_af, s_st_cf, s_st_ty, s_st_pa, s_st_le, s_st_ri, s_st_re, s_st_rs, s_st_nf, s_st_wr, s_st_wd, s_st_mf, s_st_vf, s_st_be, s_st_fa, s_st_up, s_st_dn]; exact hd⟩
theorem p80 (R : REL L sc w) {t : Int32} : PI 80 152 [.ref 0, .int t] [.ref 51, .int t, x_no] L sc w := by
  obtain ⟨e, d, k, H, cf, len, m, n, U, R⟩ := R
  intro b
  obtain ⟨C, D, g, hk, vx, v, E, hs, hi, hc, ht, hw, hd⟩ := id R
  refine c80 R.1 R.vc (fun c => ⟨e, R.o51w, _, rfl, fun b2 => ?_⟩) (fun w1 d1 c E1 f1 C1 => ⟨f1.2.1.trans e, R.o51 f1, _, rfl, fun b2 => ?_⟩)
  · exact c152 R.2.1 v ht vx.1 E (fun _ => ⟨rfl, R.xREL e⟩) (fun w2 m2 c2 _ _ _ _ => absurd c2 c)
  · refine c152 (R.2.1.fr f1 (Or.inr (Nat.le_refl _))) v ht vx.1 (E.tr E1.sy) (fun c2 => absurd c c2) (fun w2 m2 _ f2 D2 h1 h2 => ⟨by rw [hc], ?_⟩)
    exact (R.ls (C1.fx f2 (Nat.le_refl _)) D2 h1 h2).xREL (f2.2.1.trans (f1.2.1.trans e))
theorem p81 (R : REL L sc w) : PI 81 153 [.ref 0] [.ref 51, x_no] L sc w := by
  obtain ⟨e, d, k, H, cf, len, m, n, U, R⟩ := R
  intro b
  obtain ⟨C, D, g, hk, vx, v, E, hs, hi, hc, ht, hw, hd⟩ := id R
  refine c81 R.1 R.vc (fun w1 d1 E1 h0 f1 C1 => ⟨f1.2.1.trans e, R.o51 f1, _, rfl, fun b2 => ?_⟩) (fun w1 d1 d2 k2 H2 E1 h0 f1 C1 E2 r1 => ⟨f1.2.1.trans e, R.o51 f1, _, rfl, fun b2 => ?_⟩)
  · rw [← hc] at h0
    refine c153 (R.2.1.fr f1 (Or.inr (Nat.le_refl _))) v R.s5 ht vx.1 (E.tr E1.sy) (fun w2 m2 _ f2 D2 h1 h2 => ⟨rfl, ?_⟩) (fun w2 m2 n2 h1 _ _ _ _ _ => absurd h1 h0)
    exact (R.ls (C1.fx f2 (Nat.le_refl _)) D2 h1 h2).xREL (f2.2.1.trans (f1.2.1.trans e))
  · have g2 : vG d2 U := vG_eq E2 (vG_rF 80 d1 0 0 (vG_eq E1 g))
    rw [← hc] at h0 E2
    refine c153 (R.2.1.fr f1 (Or.inr (Nat.le_refl _))) v R.s5 ht vx.1 (E.tr E1.sy) (fun w2 m2 h1 _ _ _ _ => absurd h0 h1) (fun w2 m2 n2 _ f2 D2 h1 v2 rk => ⟨by rw [hc], ?_⟩)
    exact (R.chg (C1.fx f2 (Nat.le_refl _)) r1 D2 rk g2 v2 (h1.tr E2.sy)).xREL (f2.2.1.trans (f1.2.1.trans e))
end PC
