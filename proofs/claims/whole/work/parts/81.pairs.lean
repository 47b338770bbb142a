/-! Both sides answer alike: questions -/
section PQ
variable {w : xW} {d : DD} {k len n U : Nat} {H : Nat → DD} {cf : Nat → Int32} {m : xM} {L : Nat} {sc : Nat → Int32}
theorem rel.xPJ {y z : Nat} {as bs : List Value} {A B : Int64} (R : rel w d k H cf len m n U) (e : w.2.2 = (L, sc)) (hAB : B = A) (h1 : ∀ b (Q : Option Value → xW → Prop), (∀ w2, fr w w2 0 51 → cW w2 d k H cf len → Q (some (.long A)) w2) → Wp y b 0 as [] w Q) (h2 : ∀ b (w1 : xW) (Q : Option Value → xW → Prop), isM w1 m → (∀ w2 m2, fr w1 w2 51 60 → isM w2 m2 → kM m m2 → Q (some (.long B)) w2) → Wp z b 0 bs [] w1 Q) : PJ y z as bs L sc w := by
  intro b
  refine h1 b _ (fun w1 f1 C1 => ⟨f1.2.1.trans e, R.o51 f1, A, rfl, fun b2 => ?_⟩)
  refine h2 b2 w1 _ (R.2.1.fr f1 (Or.inr (Nat.le_refl _))) (fun w2 m2 f2 D2 q => ⟨by rw [hAB], ?_⟩)
  exact (R.xkM (C1.fx f2 (Nat.le_refl _)) D2 q).xREL (f2.2.1.trans (f1.2.1.trans e))
theorem p63 (R : REL L sc w) {r a : Int32} : PI 63 120 [.ref 0, .int r, .int a] [.ref 51, .int r, .int a] L sc w := by
  obtain ⟨e, d, k, H, cf, len, m, n, U, R⟩ := R
  exact R.xPI e (R.eq.xrwA R.vd R.hU) (fun b Q K => c63 R.1 R.vc R.hp K) (fun b w1 Q D K => r120 D R.im K)
theorem p64 (R : REL L sc w) {r q : Int32} : PI 64 121 [.ref 0, .int r, .int q] [.ref 51, .int r, .int q] L sc w := by
  obtain ⟨e, d, k, H, cf, len, m, n, U, R⟩ := R
  exact R.xPI e (R.eq.xrdA R.vd) (fun b Q K => c64 R.1 R.vc K) (fun b w1 Q D K => r121 D R.im K)
theorem p65 (R : REL L sc w) {x y : Int32} : PI 65 122 [.ref 0, .int x, .int y] [.ref 51, .int x, .int y, x_no] L sc w := by
  obtain ⟨e, d, k, H, cf, len, m, n, U, R⟩ := R
  exact R.xPI e R.eq.xfiA (fun b Q K => c65 R.1 R.vc K) (fun b w1 Q D K => r122 D R.im K)
theorem p66 (R : REL L sc w) {a : Int32} : PI 66 127 [.ref 0, .int a] [.ref 51, .int a] L sc w := by
  obtain ⟨e, d, k, H, cf, len, m, n, U, R⟩ := R
  exact R.xPI e (B := cnA (dOf n m.df) m.st m.ty U a) (by rw [R.2.2.2.2.2.2.2.1, R.2.2.2.2.2.2.2.2.2.2.1]; exact R.eq.xcnA R.vd R.hU) (fun b Q K => c66 R.1 R.vc R.hp K) (fun b w1 Q D K => r127 D R.im K)
theorem p68 (R : REL L sc w) {a t : Int32} : PJ 68 129 [.ref 0, .int a, .int t] [.ref 51, .int a, .int t] L sc w := by
  obtain ⟨e, d, k, H, cf, len, m, n, U, R⟩ := R
  exact R.xPJ e (R.eq.xvaA R.hU) (fun b Q K => c68 R.1 R.vc R.hp K) (fun b w1 Q D K => r129 D R.im K)
theorem p69 (R : REL L sc w) {t : Int32} : PJ 69 130 [.ref 0, .int t] [.ref 51, .int t] L sc w := by
  obtain ⟨e, d, k, H, cf, len, m, n, U, R⟩ := R
  exact R.xPJ e (R.eq.xpaA R.hU) (fun b Q K => c69 R.1 R.vc R.hp K) (fun b w1 Q D K => r130 D R.im K)
theorem p70 (R : REL L sc w) {r q t : Int32} : PJ 70 131 [.ref 0, .int r, .int q, .int t] [.ref 51, .int r, .int q, .int t] L sc w := by
  obtain ⟨e, d, k, H, cf, len, m, n, U, R⟩ := R
  exact R.xPJ e (R.eq.xreA R.vd R.hU) (fun b Q K => c70 R.1 R.vc R.hp K) (fun b w1 Q D K => r131 D R.im K)
theorem p71 (R : REL L sc w) {a t : Int32} : PJ 71 132 [.ref 0, .int a, .int t] [.ref 51, .int a, .int t, x_no, x_no, x_no, x_no] L sc w := by
  obtain ⟨e, d, k, H, cf, len, m, n, U, R⟩ := R
  exact R.xPJ e (R.eq.xbaA R.hU) (fun b Q K => c71 R.1 R.vc R.hp K) (fun b w1 Q D K => r132 D R.im K)
theorem p72 (R : REL L sc w) {r t : Int32} : PJ 72 134 [.ref 0, .int r, .int t] [.ref 51, .int r, .int t] L sc w := by
  obtain ⟨e, d, k, H, cf, len, m, n, U, R⟩ := R
  exact R.xPJ e (R.eq.xmeA R.hn) (fun b Q K => c72 R.1 R.vc K) (fun b w1 Q D K => r134 D R.im K)
theorem p73 (R : REL L sc w) {t : Int32} : PI 73 135 [.ref 0, .int t, x_no] [.ref 51, .int t, x_no, x_no, x_no, x_no, x_no, x_no, x_no] L sc w := by
  obtain ⟨e, d, k, H, cf, len, m, n, U, R⟩ := R
  exact R.xPI e (R.eq.xwoA R.hU) (fun b Q K => c73 R.1 R.vc R.hp K) (fun b w1 Q D K => r135 D R.im K)
theorem p74 (R : REL L sc w) {r q a t : Int32} : PJ 74 136 [.ref 0, .int r, .int q, .int a, .int t] [.ref 51, .int r, .int q, .int a, .int t, x_no] L sc w := by
  obtain ⟨e, d, k, H, cf, len, m, n, U, R⟩ := R
  exact R.xPJ e (R.eq.xwiA R.vd R.hU) (fun b Q K => c74 R.1 R.vc R.hp K) (fun b w1 Q D K => r136 D R.im K)
theorem p75 (R : REL L sc w) {a : Int32} : PI 75 138 [.ref 0, .int a] [.ref 51, .int a] L sc w := by
  obtain ⟨e, d, k, H, cf, len, m, n, U, R⟩ := R
  exact R.xPI e R.eq.xchA (fun b Q K => c75 R.1 R.vc K) (fun b w1 Q D K => r138 D R.im K)
theorem p76 (R : REL L sc w) {r t : Int32} : PJ 76 141 [.ref 0, .int r, .int t, x_no] [.ref 51, .int r, .int t, x_no] L sc w := by
  obtain ⟨e, d, k, H, cf, len, m, n, U, R⟩ := R
  exact R.xPJ e (R.eq.xpbA R.hn) (fun b Q K => c76 R.1 R.vc K) (fun b w1 Q D K => r141 D R.im K)
theorem p77 (R : REL L sc w) : PI 77 142 [.ref 0] [.ref 51, x_no, x_no, x_no, x_no, x_no, x_no, x_no, x_no, x_no, x_no, x_no] L sc w := by
  obtain ⟨e, d, k, H, cf, len, m, n, U, R⟩ := R
  exact R.xPI e (R.eq.xmsA R.hn) (fun b Q K => c77 R.1 R.vc K) (fun b w1 Q D K => r142 D R.im K)
/-! texts: what changes no design -/
theorem p79 (R : REL L sc w) : PI 79 144 [.ref 0, x_no] [.ref 51, x_no] L sc w := by
  obtain ⟨e, d, k, H, cf, len, m, n, U, R⟩ := R
  intro b
  refine c79 R.1 (fun w1 f1 C1 => ⟨f1.2.1.trans e, R.o51 f1, _, rfl, fun b2 => ?_⟩)
  obtain ⟨C, D, g, hk, vx, v, E, hs, hi, hc, ht, hw, hd⟩ := R
  refine c144 (D.fr f1 (Or.inr (Nat.le_refl _))) (fun w2 f2 D2 => ⟨by rw [ht], f2.2.1.trans (f1.2.1.trans e), d, k, H, cf, 0, m.s_ty 0, n, U, ?_⟩)
  refine ⟨C1.fx f2 (Nat.le_refl _), D2, g, hk, ⟨by omega, fun j hj => absurd hj (Nat.not_lt_zero _)⟩, by simp only [s_ty_df, s_ty_wf, s_ty_st, s_ty_af, s_ty_cf, s_ty_ty, s_ty_pa, s_ty_le, s_ty_ri, s_ty_re, s_ty_rs, s_ty_nf, s_ty_wr, s_ty_wd, s_ty_mf, s_ty_vf, s_ty_be, s_ty_fa, s_ty_up, s_ty_dn]; exact v, by simp only [s_ty_df, s_ty_wf, s_ty_st, s_ty_af, s_ty_cf, s_ty_ty, s_ty_pa, s_ty_le, s_ty_ri, s_ty_re, s_ty_rs, s_ty_nf, s_ty_wr, s_ty_wd, s_ty_mf, s_ty_vf, s_ty_be, s_ty_fa, s_ty_up, s_ty_dn]; exact E, by simp only [s_ty_df, s_ty_wf, s_ty_st, s_ty_af, s_ty_cf, s_ty_ty, s_ty_pa, s_ty_le, s_ty_ri, s_ty_re, s_ty_rs, s_ty_nf, s_ty_wr, s_ty_wd, s_ty_mf, s_ty_vf, s_ty_be, s_ty_fa, s_ty_up, s_ty_dn]; exact hs, by simp only [s_ty_df, s_ty_wf, s_ty_st, s_ty_af, s_ty_cf, s_ty_ty, s_ty_pa, s_ty_le, s_ty_ri, s_ty_re, s_ty_rs, s_ty_nf, s_ty_wr, s_ty_wd, s_ty_mf, s_ty_vf, s_ty_be, s_ty_fa, s_ty_up, s_ty_dn]; exact hi, by simp only [s_ty_df, s_ty_wf, s_ty_st, s_ty_af, s_ty_cf, s_ty_ty, s_ty_pa, s_ty_le, s_ty_ri, s_ty_re, s_ty_rs, s_ty_nf, s_ty_wr, s_ty_wd, s_ty_mf, s_ty_vf, s_ty_be, s_ty_fa, s_ty_up, s_ty_dn]; exact hc, by simp only [s_ty_df, s_ty_wf, s_ty_st, s_ty_af, s_ty_cf, s_ty_ty, s_ty_pa, s_ty_le, s_ty_ri, s_ty_re, s_ty_rs, s_ty_nf, s_ty_wr, s_ty_wd, s_ty_mf, s_ty_vf, s_ty_be, s_ty_fa, s_ty_up, s_ty_dn], by simp only [s_ty_df, s_ty_wf, s_ty_st, s_ty_af, s_ty_cf, s_ty_ty, s_ty_pa, s_ty_le, s_ty_ri, s_ty_re, s_ty_rs, s_ty_nf, s_ty_wr, s_ty_wd, s_ty_mf, s_ty_vf, s_ty_be, s_ty_fa, s_ty_up, s_ty_dn]; exact hw, by simp only [s_ty_df, s_ty_wf, s_ty_st, s_ty_af, s_ty_cf, s_ty_ty, s_ty_pa, s_ty_le, s_ty_ri, s_ty_re, s_ty_rs, s_ty_nf, s_ty_wr, s_ty_wd, s_ty_mf, s_ty_vf, s_ty_be, s_ty_fa, s_ty_up, s_ty_dn]; exact hd⟩
theorem x_nar {c : Int32} (h : 32 ≤ c ∧ c ≤ 126) : vp_nar .char (vp_nar .char (c.toUInt32 % 65536).toInt32) = vp_nar .char (c.toUInt32 % 65536).toInt32 := by
  have G : ∀ z, z < 127 → vp_nar .char (vp_nar .char ((nI z).toUInt32 % 65536).toInt32) = vp_nar .char ((nI z).toUInt32 % 65536).toInt32 := by decide +kernel
  obtain ⟨h1, h2⟩ := h
  rcases pk_ix c (n := 127) (by omega) with q | q | ⟨z, hz, ez⟩
  · rw [Int32.lt_iff_toInt_lt, show (0 : Int32).toInt = 0 from rfl] at q
    rw [Int32.le_iff_toInt_le, show (32 : Int32).toInt = 32 from rfl] at h1
    omega
  · rw [Int32.le_iff_toInt_le, show (nI 127 : Int32).toInt = 127 from rfl] at q
    rw [Int32.le_iff_toInt_le, show (126 : Int32).toInt = 126 from rfl] at h2
    omega
  · rw [ez]
    exact G z hz
theorem p78 (R : REL L sc w) {c : Int32} : PI 78 143 [.ref 0, .int c] [.ref 51, .int c] L sc w := by
  obtain ⟨e, d, k, H, cf, len, m, n, U, R⟩ := R
  intro b
  have vc := R.vc
  obtain ⟨C, D, g, hk, vx, v, E, hs, hi, hc, ht, hw, hd⟩ := id R
  have h80 : m.ty ≤ 80 := by rw [ht]; exact vx.1
  refine c78 C vc (fun q => ⟨e, R.o51w, _, rfl, fun b2 => ?_⟩) (fun q1 q2 => ⟨e, R.o51w, _, rfl, fun b2 => ?_⟩) (fun w1 q1 q2 f1 C1 => ⟨f1.2.1.trans e, R.o51 f1, _, rfl, fun b2 => ?_⟩)
  · exact c143 D h80 (fun _ => ⟨rfl, R.xREL e⟩) (fun q1 _ => absurd q1 q) (fun w2 q1 _ _ _ => absurd q1 q)
  · exact c143 D h80 (fun q => absurd q1 q) (fun _ _ => ⟨rfl, R.xREL e⟩) (fun w2 _ q3 _ _ => by omega)
  · refine c143 (D.fr f1 (Or.inr (Nat.le_refl _))) h80 (fun q => absurd q1 q) (fun _ q3 => by omega) (fun w2 _ _ f2 D2 => ⟨by rw [ht], f2.2.1.trans (f1.2.1.trans e), d, k, H, upd cf len (vp_nar .char (c.toUInt32 % 65536).toInt32), len + 1, (m.s_cf (upd m.cf m.ty (vp_nar .char (c.toUInt32 % 65536).toInt32))).s_ty (m.ty + 1), n, U, ?_⟩)
    refine ⟨C1.fx f2 (Nat.le_refl _), D2, g, hk, ⟨by omega, fun j hj => ?_⟩, by simp only [s_ty_df, s_ty_wf, s_ty_st, s_ty_af, s_ty_cf, s_ty_ty, s_ty_pa, s_ty_le, s_ty_ri, s_ty_re, s_ty_rs, s_ty_nf, s_ty_wr, s_ty_wd, s_ty_mf, s_ty_vf, s_ty_be, s_ty_fa, s_ty_up, s_ty_dn, s_cf_df, s_cf_wf, s_cf_st, s_cf_af, s_cf_cf, s_cf_ty, s_cf_pa, s_cf_le, s_cf_ri, s_cf_re, s_cf_rs, s_cf_nf, s_cf_wr, s_cf_wd, s_cf_mf, s_cf_vf, s_cf_be, s_cf_fa, s_cf_up, s_cf_dn]; exact v, by simp only [s_ty_df, s_ty_wf, s_ty_st, s_ty_af, s_ty_cf, s_ty_ty, s_ty_pa, s_ty_le, s_ty_ri, s_ty_re, s_ty_rs, s_ty_nf, s_ty_wr, s_ty_wd, s_ty_mf, s_ty_vf, s_ty_be, s_ty_fa, s_ty_up, s_ty_dn, s_cf_df, s_cf_wf, s_cf_st, s_cf_af, s_cf_cf, s_cf_ty, s_cf_pa, s_cf_le, s_cf_ri, s_cf_re, s_cf_rs, s_cf_nf, s_cf_wr, s_cf_wd, s_cf_mf, s_cf_vf, s_cf_be, s_cf_fa, s_cf_up, s_cf_dn]; exact E, by simp only [s_ty_df, s_ty_wf, s_ty_st, s_ty_af, s_ty_cf, s_ty_ty, s_ty_pa, s_ty_le, s_ty_ri, s_ty_re, s_ty_rs, s_ty_nf, s_ty_wr, s_ty_wd, s_ty_mf, s_ty_vf, s_ty_be, s_ty_fa, s_ty_up, s_ty_dn, s_cf_df, s_cf_wf, s_cf_st, s_cf_af, s_cf_cf, s_cf_ty, s_cf_pa, s_cf_le, s_cf_ri, s_cf_re, s_cf_rs, s_cf_nf, s_cf_wr, s_cf_wd, s_cf_mf, s_cf_vf, s_cf_be, s_cf_fa, s_cf_up, s_cf_dn]; exact hs, by simp only [s_ty_df, s_ty_wf, s_ty_st, s_ty_af, s_ty_cf, s_ty_ty, s_ty_pa, s_ty_le, s_ty_ri, s_ty_re, s_ty_rs, s_ty_nf, s_ty_wr, s_ty_wd, s_ty_mf, s_ty_vf, s_ty_be, s_ty_fa, s_ty_up, s_ty_dn, s_cf_df, s_cf_wf, s_cf_st, s_cf_af, s_cf_cf, s_cf_ty, s_cf_pa, s_cf_le, s_cf_ri, s_cf_re, s_cf_rs, s_cf_nf, s_cf_wr, s_cf_wd, s_cf_mf, s_cf_vf, s_cf_be, s_cf_fa, s_cf_up, s_cf_dn]; exact hi, by simp only [s_ty_df, s_ty_wf, s_ty_st, s_ty_af, s_ty_cf, s_ty_ty, s_ty_pa, s_ty_le, s_ty_ri, s_ty_re, s_ty_rs, s_ty_nf, s_ty_wr, s_ty_wd, s_ty_mf, s_ty_vf, s_ty_be, s_ty_fa, s_ty_up, s_ty_dn, s_cf_df, s_cf_wf, s_cf_st, s_cf_af, s_cf_cf, s_cf_ty, s_cf_pa, s_cf_le, s_cf_ri, s_cf_re, s_cf_rs, s_cf_nf, s_cf_wr, s_cf_wd, s_cf_mf, s_cf_vf, s_cf_be, s_cf_fa, s_cf_up, s_cf_dn]; rw [hc, ht], by simp only [s_ty_df, s_ty_wf, s_ty_st, s_ty_af, s_ty_cf, s_ty_ty, s_ty_pa, s_ty_le, s_ty_ri, s_ty_re, s_ty_rs, s_ty_nf, s_ty_wr, s_ty_wd, s_ty_mf, s_ty_vf, s_ty_be, s_ty_fa, s_ty_up, s_ty_dn, s_cf_df, s_cf_wf, s_cf_st, s_cf_af, s_cf_cf, s_cf_ty, s_cf_pa, s_cf_le, s_cf_ri, s_cf_re, s_cf_rs, s_cf_nf, s_cf_wr, s_cf_wd, s_cf_mf, s_cf_vf, s_cf_be, s_cf_fa, s_cf_up, s_cf_dn]; rw [ht], by simp only [s_ty_df, s_ty_wf, s_ty_st, s_ty_af, s_ty_cf, s_ty_ty, s_ty_pa, s_ty_le, s_ty_ri, s_ty_re, s_ty_rs, s_ty_nf, s_ty_wr, s_ty_wd, s_ty_mf, s_ty_vf, s_ty_be, s_ty_fa, s_ty_up, s_ty_dn, s_cf_df, s_cf_wf, s_cf_st, s_cf_af, s_cf_cf, s_cf_ty, s_cf_pa, s_cf_le, s_cf_ri, s_cf_re, s_cf_rs, s_cf_nf, s_cf_wr, s_cf_wd, s_cf_mf, s_cf_vf, s_cf_be, s_cf_fa, s_cf_up, s_cf_dn]; exact hw, by simp only [s_ty_df, s_ty_wf, s_ty_st, s_ty_af, s_ty_cf, s_ty_ty, s_ty_pa, s_ty_le, s_ty_ri, s_ty_re, s_ty_rs, s_ty_nf, s_ty_wr, s_ty_wd, s_ty_mf, s_ty_vf, s_ty_be, s_ty_fa, s_ty_up, s_ty_dn, s_cf_df, s_cf_wf, s_cf_st, s_cf_af, s_cf_cf, s_cf_ty, s_cf_pa, s_cf_le, s_cf_ri, s_cf_re, s_cf_rs, s_cf_nf, s_cf_wr, s_cf_wd, s_cf_mf, s_cf_vf, s_cf_be, s_cf_fa, s_cf_up, s_cf_dn]; exact hd⟩
    by_cases c : j = len
    · rw [c, pk_us]
      exact x_nar q1
    · rw [pk_un c]
      exact vx.2 j (by omega)
end PQ
