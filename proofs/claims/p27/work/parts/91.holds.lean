/-! The law's holds -/
def sT (oo : Nat) (w0 w : xW) (d : DD) (k : Nat) (H : Nat → DD) (cf : Nat → Int32) (len : Nat) : Prop := fr w0 w oo (oo + 51) ∧ cW oo w d k H cf len
theorem nI_z {k : Nat} (h : k ≤ 1000) : nI k ≤ 0 ↔ k = 0 := by
  rw [show (0 : Int32) = nI 0 from rfl, nI_le' h (by omega)]
  omega
section A1
variable {oo b U : Nat} {w0 w : xW} {d : DD} {k len : Nat} {H : Nat → DD} {cf : Nat → Int32} {Q : Option Value → xW → Prop}
theorem a63 (S : sT oo w0 w d k H cf len) (v : vC d k H cf len) (hp : isU (dp d) U) {r a : Int32} (K : ∀ w2, sT oo w0 w2 d k H cf len → Q (some (.int (rwA d U r a))) w2) : x_isO (rd w oo) 5 ∧ Wp 63 b 0 [.ref oo, .int r, .int a] [] w Q := ⟨⟨_, S.2.1⟩, c63 S.2 v hp (fun w2 f2 C2 => K w2 ⟨S.1.tr f2, C2⟩)⟩
theorem a65 (S : sT oo w0 w d k H cf len) (v : vC d k H cf len) {x y : Int32} (K : ∀ w2, sT oo w0 w2 d k H cf len → Q (some (.int (fiA d x y))) w2) : x_isO (rd w oo) 5 ∧ Wp 65 b 0 [.ref oo, .int x, .int y] [] w Q := ⟨⟨_, S.2.1⟩, c65 S.2 v (fun w2 f2 C2 => K w2 ⟨S.1.tr f2, C2⟩)⟩
theorem a66 (S : sT oo w0 w d k H cf len) (v : vC d k H cf len) (hp : isU (dp d) U) {a : Int32} (K : ∀ w2, sT oo w0 w2 d k H cf len → Q (some (.int (cnA d k len U a))) w2) : x_isO (rd w oo) 5 ∧ Wp 66 b 0 [.ref oo, .int a] [] w Q := ⟨⟨_, S.2.1⟩, c66 S.2 v hp (fun w2 f2 C2 => K w2 ⟨S.1.tr f2, C2⟩)⟩
theorem a68 (S : sT oo w0 w d k H cf len) (v : vC d k H cf len) (hp : isU (dp d) U) {a t : Int32} (K : ∀ w2, sT oo w0 w2 d k H cf len → Q (some (.long (vaA d U a t))) w2) : x_isO (rd w oo) 5 ∧ Wp 68 b 0 [.ref oo, .int a, .int t] [] w Q := ⟨⟨_, S.2.1⟩, c68 S.2 v hp (fun w2 f2 C2 => K w2 ⟨S.1.tr f2, C2⟩)⟩
theorem a69 (S : sT oo w0 w d k H cf len) (v : vC d k H cf len) (hp : isU (dp d) U) {t : Int32} (K : ∀ w2, sT oo w0 w2 d k H cf len → Q (some (.long (paA d U t))) w2) : x_isO (rd w oo) 5 ∧ Wp 69 b 0 [.ref oo, .int t] [] w Q := ⟨⟨_, S.2.1⟩, c69 S.2 v hp (fun w2 f2 C2 => K w2 ⟨S.1.tr f2, C2⟩)⟩
theorem a70 (S : sT oo w0 w d k H cf len) (v : vC d k H cf len) (hp : isU (dp d) U) {r q t : Int32} (K : ∀ w2, sT oo w0 w2 d k H cf len → Q (some (.long (reA d U r q t))) w2) : x_isO (rd w oo) 5 ∧ Wp 70 b 0 [.ref oo, .int r, .int q, .int t] [] w Q := ⟨⟨_, S.2.1⟩, c70 S.2 v hp (fun w2 f2 C2 => K w2 ⟨S.1.tr f2, C2⟩)⟩
theorem a71 (S : sT oo w0 w d k H cf len) (v : vC d k H cf len) (hp : isU (dp d) U) {a t : Int32} (K : ∀ w2, sT oo w0 w2 d k H cf len → Q (some (.long (baA d U a t))) w2) : x_isO (rd w oo) 5 ∧ Wp 71 b 0 [.ref oo, .int a, .int t] [] w Q := ⟨⟨_, S.2.1⟩, c71 S.2 v hp (fun w2 f2 C2 => K w2 ⟨S.1.tr f2, C2⟩)⟩
theorem a72 (S : sT oo w0 w d k H cf len) (v : vC d k H cf len) {r t : Int32} (K : ∀ w2, sT oo w0 w2 d k H cf len → Q (some (.long (meA d r t))) w2) : x_isO (rd w oo) 5 ∧ Wp 72 b 0 [.ref oo, .int r, .int t] [] w Q := ⟨⟨_, S.2.1⟩, c72 S.2 v (fun w2 f2 C2 => K w2 ⟨S.1.tr f2, C2⟩)⟩
theorem a74 (S : sT oo w0 w d k H cf len) (v : vC d k H cf len) (hp : isU (dp d) U) {r q a t : Int32} (K : ∀ w2, sT oo w0 w2 d k H cf len → Q (some (.long (wiA d U r q a t))) w2) : x_isO (rd w oo) 5 ∧ Wp 74 b 0 [.ref oo, .int r, .int q, .int a, .int t] [] w Q := ⟨⟨_, S.2.1⟩, c74 S.2 v hp (fun w2 f2 C2 => K w2 ⟨S.1.tr f2, C2⟩)⟩
theorem a76 (S : sT oo w0 w d k H cf len) (v : vC d k H cf len) {r t : Int32} (K : ∀ w2, sT oo w0 w2 d k H cf len → Q (some (.long (pbA d r t))) w2) : x_isO (rd w oo) 5 ∧ Wp 76 b 0 [.ref oo, .int r, .int t, x_no] [] w Q := ⟨⟨_, S.2.1⟩, c76 S.2 v (fun w2 f2 C2 => K w2 ⟨S.1.tr f2, C2⟩)⟩
theorem i32_n {x y : Int32} (h : x = y) : ¬ ¬ x = y := fun q => q h
theorem le1_n {x : Int32} (h : 1 ≤ x) : ¬ x ≤ 0 := by
  rw [Int32.le_iff_toInt_le, show (1 : Int32).toInt = 1 from rfl] at h
  rw [Int32.le_iff_toInt_le, show (0 : Int32).toInt = 0 from rfl]
  omega
theorem lg_xx (x : Int64) : ¬ ¬ lg_cmp x x = 0 := fun q => q ((lg_cmp_eq x x).mpr rfl)
/-- behind a row's checks -/
theorem t93 (S : sT oo w0 w d k H cf len) (v : vC d k H cf len) (g : vG d U) {r : Nat} (hr : r < dn d) {a x2 x4 x5 x6 : Int32} (K : ∀ w2, sT oo w0 w2 d k H cf len → Wp 93 b 36 [.ref oo, .int a, .int 1, .int (nI (r + 1)), .int x4, .int x5, .int x6] [] w2 Q) : Wp 93 b 173 [.ref oo, .int a, .int x2, .int (nI r), .int x4, .int x5, .int x6] [] w Q := by
  have hn := v.n
  have hp := g.2.1
  have z1 : ¬ (1 : Int32) = 0 := by decide
  have e4 : rwA d U (nI r) 4 = bI (¬ deD d U = 0 ∧ deX d U r = 0) := rw_a hn hr (z := 4) (by omega)
  have e2 : rwA d U (nI r) 2 = dt d r := rw_a hn hr (z := 2) (by omega)
  have e5 : cnA d k len U 5 = bI (¬ deD d U = 0) := cn_a (z := 5) (by omega)
  simp only [q93_173, q93_174, q93_178, q93_179, q93_180, q93_183, q93_184, q93_185, q93_186, if_neg z1]
  refine a63 S v hp (fun w S => ?_)
  simp only [rl_some, e4]
  by_cases c : ¬ deD d U = 0 ∧ deX d U r = 0
  · rw [bI_t c]
    simp only [q93_189, q93_192, q93_193, q93_194, if_neg z1]
    refine a66 S v hp (fun w S => ?_)
    simp only [rl_some, e5, bI_t c.1]
    simp only [q93_197, q93_198, q93_201, q93_202, q93_203, q93_204, if_neg (i32_n (x := 1) rfl)]
    refine a63 S v hp (fun w S => ?_)
    simp only [rl_some, e2]
    have ht := need_t v.1 g.2.1.2 hr c
    have ht2 : ¬ dt d r ≤ 0 := by
      obtain ⟨t1, t2⟩ := v.t hr
      rw [t1, nI_z (by omega)]
      omega
    simp only [q93_207, q93_210, q93_211, q93_215, q93_216, q93_219, if_neg ht2, nI_1]
    exact K w S
  · rw [bI_f c]
    simp only [q93_189, q93_210, q93_211, q93_215, q93_216, q93_219, if_true, nI_1]
    exact K w S
theorem l93a (v : vC d k H cf len) (g : vG d U) (p : vP d) : ∀ (m r : Nat) (a : Int32) (w : xW) (x4 x5 x6 : Value), r + m = dn d → sT oo w0 w d k H cf len → (∀ w2 x4 x5 x6, sT oo w0 w2 d k H cf len → Wp 93 b 222 [.ref oo, .int (foldN (fun a j => a + dt d j) m r a), .int 1, .int (nI (dn d)), x4, x5, x6] [] w2 Q) → Wp 93 b 36 [.ref oo, .int a, .int 1, .int (nI r), x4, x5, x6] [] w Q := by
  have hn := v.n
  have hp := g.2.1
  have z1 : ¬ (1 : Int32) = 0 := by decide
  have c3 : cnA d k len U 3 = nI (dn d) := cn_a (z := 3) (by omega)
  intro m
  induction m with
  | zero =>
    intro r a w x4 x5 x6 hr S K
    have e : r = dn d := by omega
    subst e
    rw [q93_36]
    simp only [q93_37, q93_38, q93_39]
    refine a66 S v hp (fun w S => ?_)
    have hc : nI (dn d) ≤ nI (dn d) := nI_le (by omega) (by omega)
    simp only [rl_some, c3, q93_42, if_pos hc]
    exact K w x4 x5 x6 S
  | succ m ih =>
    intro r a w x4 x5 x6 hr S K
    have hrn : r < dn d := by omega
    have hc : ¬ nI (dn d) ≤ nI r := by rw [nI_le' (by omega) (by omega)]; omega
    have e0 : rwA d U (nI r) 0 = dl d r := rw_a hn hrn (z := 0) (by omega)
    have e1 : rwA d U (nI r) 1 = dr d r := rw_a hn hrn (z := 1) (by omega)
    have e2 : rwA d U (nI r) 2 = dt d r := rw_a hn hrn (z := 2) (by omega)
    have e3 : rwA d U (nI r) 3 = rwZ d U r 3 := rw_a hn hrn (z := 3) (by omega)
    obtain ⟨⟨⟨p1, -⟩, p2, -⟩, p3⟩ := p.1 r hrn
    have ef := fi_r hn p hrn
    have h6 : ¬ (6 : Int32) < dt d r := by
      obtain ⟨t1, t2⟩ := v.t hrn
      rw [t1, show (6 : Int32) = nI 6 from rfl, nI_lt' (by omega) (by omega)]
      omega
    have KK : ∀ x4 x5 x6 w2, sT oo w0 w2 d k H cf len → Wp 93 b 36 [.ref oo, .int (a + dt d r), .int 1, .int (nI (r + 1)), .int x4, .int x5, .int x6] [] w2 Q := fun x4 x5 x6 w2 S2 => ih (r + 1) (a + dt d r) w2 _ _ _ (by omega) S2 K
    rw [q93_36]
    simp only [q93_37, q93_38, q93_39]
    refine a66 S v hp (fun w S => ?_)
    simp only [rl_some, c3, q93_42, q93_45, q93_46, q93_49, q93_50, q93_51, q93_52, if_neg hc, if_neg z1]
    refine a63 S v hp (fun w S => ?_)
    simp only [rl_some, e0, q93_55, q93_57, q93_58, q93_59, q93_60]
    refine a63 S v hp (fun w S => ?_)
    simp only [rl_some, e1, q93_63, q93_65, q93_66, q93_67, q93_68]
    refine a63 S v hp (fun w S => ?_)
    simp only [rl_some, e3, q93_71, q93_73, q93_74, q93_75, q93_76, q93_77]
    refine a63 S v hp (fun w S => ?_)
    simp only [rl_some, e2, q93_80, q93_81, q93_82, q93_84, q93_87, q93_89, q93_92, q93_94, q93_96, q93_97, q93_100, q93_101, q93_103, q93_105, if_neg (le1_n p1), if_neg (le1_n p2), p3, if_neg (i32_n (x := 0) rfl)]
    refine a65 S v (fun w S => ?_)
    simp only [rl_some, ef, q93_108, q93_109, q93_112, q93_113, q93_114, q93_115, if_neg (i32_n (x := nI r) rfl)]
    refine a63 S v hp (fun w S => ?_)
    simp only [rl_some, e2, q93_118, q93_120, q93_123, q93_125, if_neg h6]
    rcases sw_al hn p hrn (U := U) with e | ⟨j, hj, ej, ek, hb⟩
    · rw [e, if_pos (by decide)]
      exact t93 S v g hrn (KK _ _ _)
    · have f3 : rwA d U (nI j) 3 = nI r := (rw_a hn hj (z := 3) (by omega)).trans ek
      have hj0 : ¬ nI j < 0 := nI_pos (by omega)
      rw [ej, if_neg hj0]
      simp only [q93_128, q93_129, q93_131, q93_132]
      refine a63 S v hp (fun w S => ?_)
      simp only [rl_some, f3, q93_135, q93_136, q93_139, q93_140, q93_142, q93_143, if_neg (i32_n (x := nI r) rfl)]
      refine a76 S v (fun w S => ?_)
      simp only [rl_some, q93_146, q93_147, q93_148, q93_149]
      refine a76 S v (fun w S => ?_)
      simp only [rl_some, hb 0 hB_0, q93_152, q93_153, q93_156, q93_157, q93_159, q93_160, if_neg (lg_xx _)]
      refine a76 S v (fun w S => ?_)
      simp only [rl_some, q93_163, q93_164, q93_165, q93_166]
      refine a76 S v (fun w S => ?_)
      simp only [rl_some, hb 1 hB_1, q93_169, q93_170, if_neg (lg_xx _)]
      exact t93 S v g hrn (KK _ _ _)
theorem l93b (v : vC d k H cf len) (g : vG d U) {a : Int32} {x4 x5 x6 : Value} : ∀ (c m : Nat) (w : xW), m + c = 5 → 1 ≤ m → sT oo w0 w d k H cf len → (∀ w2, sT oo w0 w2 d k H cf len → Q (some (.int 1)) w2) → Wp 93 b 261 [.ref oo, .int a, .int 1, .int (nI m), x4, x5, x6] [] w Q := by
  have hp := g.2.1
  have z1 : ¬ (1 : Int32) = 0 := by decide
  have e5 : cnA d k len U 5 = bI (¬ deD d U = 0) := cn_a (z := 5) (by omega)
  intro c
  induction c with
  | zero =>
    intro m w hm h1 S K
    have e : m = 5 := by omega
    subst e
    have hc : (5 : Int32) ≤ nI 5 := by decide
    simp only [q93_261, q93_262, q93_263, q93_344, q93_345, if_pos hc, o_01, or_true, true_and]
    exact K w S
  | succ c ih =>
    intro m w hm h1 S K
    have hc : ¬ (5 : Int32) ≤ nI m := by rw [show (5 : Int32) = nI 5 from rfl, nI_le' (by omega) (by omega)]; omega
    have hm4 : 1 ≤ m ∧ m ≤ 4 := by omega
    have KK : ∀ w2, sT oo w0 w2 d k H cf len → Wp 93 b 261 [.ref oo, .int a, .int 1, .int (nI (m + 1)), x4, x5, x6] [] w2 Q := fun w2 S2 => ih (m + 1) w2 (by omega) (by omega) S2 K
    rw [q93_261]
    simp only [q93_262, q93_263, q93_266, q93_267, q93_270, q93_271, q93_272, if_neg hc, if_neg z1]
    refine a66 S v hp (fun w S => ?_)
    simp only [rl_some, e5]
    by_cases cd : deD d U = 0
    · rw [bI_f (fun q => q cd)]
      have en := va_n cd (m := m) (by omega)
      simp only [q93_275, q93_278, q93_279, q93_280, q93_281, if_neg (i32_n (x := 0) rfl)]
      refine a68 S v hp (fun w S => ?_)
      simp only [rl_some, en, q93_284, q93_287, q93_288, q93_291, q93_292, q93_337, q93_338, q93_341, if_neg (lg_xx _), nI_1]
      exact KK w S
    · rw [bI_t cd]
      obtain ⟨b0, b1⟩ := ba_0 g cd hm4
      have v1 := va_1 g cd hm4
      have v2 : ¬ lg_cmp (vaA d U (nI m) 1) 0 ≤ 0 := by
        rw [lg_cmp_le, Int64.le_iff_toInt_le, show (0 : Int64).toInt = 0 from rfl]
        omega
      simp only [q93_275, q93_299, q93_300, q93_301, q93_302, if_pos z1]
      refine a71 S v hp (fun w S => ?_)
      simp only [rl_some, b0, q93_305, q93_306, q93_307, q93_310, q93_311, q93_312, q93_313, if_neg (lg_xx _)]
      refine a71 S v hp (fun w S => ?_)
      simp only [rl_some, b1, q93_316, q93_317, q93_318, q93_321, q93_322, q93_323, q93_324, if_neg (lg_xx _)]
      refine a68 S v hp (fun w S => ?_)
      simp only [rl_some, q93_327, q93_328, q93_329, q93_332, q93_333, q93_337, q93_338, q93_341, if_neg v2, nI_1]
      exact KK w S
theorem c93 (C : cW oo w d k H cf len) (v : vC d k H cf len) (g : vG d U) (p : vP d) (K : ∀ w2, fr w w2 oo (oo + 51) → cW oo w2 d k H cf len → Q (some (.int 1)) w2) : Wp 93 b 0 [.ref oo, x_no, x_no, x_no, x_no, x_no, x_no] [] w Q := by
  have hn := v.n
  have hp := g.2.1
  have z1 : ¬ (1 : Int32) = 0 := by decide
  have e1 : cnA d k len U 1 = dp d := cn_a (z := 1) (by omega)
  have e3 : cnA d k len U 3 = nI (dn d) := cn_a (z := 3) (by omega)
  have e4 : cnA d k len U 4 = foldN (fun a j => a + dt d j) (dn d) 0 0 := cn_a (z := 4) (by omega)
  have e5 : cnA d k len U 5 = bI (¬ deD d U = 0) := cn_a (z := 5) (by omega)
  have e6 : cnA d k len U 6 = 4 + dp d := cn_a (z := 6) (by omega)
  have h12 : ¬ (12 : Int32) < nI (dn d) := by
    rw [show (12 : Int32) = nI 12 from rfl, nI_lt' (by omega) (by omega)]
    omega
  have S : sT oo w w d k H cf len := ⟨fr.rf, C⟩
  have KF : ∀ w2, sT oo w w2 d k H cf len → Q (some (.int 1)) w2 := fun w2 S2 => K w2 S2.1 S2.2
  generalize w = w0 at S KF
  simp only [q93_0, q93_1, q93_2, q93_3, q93_4]
  refine a66 S v hp (fun w S => ?_)
  simp only [rl_some, e3, q93_7, q93_9, q93_12, q93_13, q93_15, if_neg h12]
  refine a66 S v hp (fun w S => ?_)
  simp only [rl_some, e6, q93_18, q93_19, q93_20, q93_21]
  refine a66 S v hp (fun w S => ?_)
  simp only [rl_some, e1, q93_24, q93_25, q93_28, q93_29, q93_33, q93_34, q93_35, if_neg (i32_n (x := 4 + dp d) rfl)]
  refine l93a v g p (dn d) 0 0 w x_no x_no x_no (by omega) S (fun w x4 x5 x6 S => ?_)
  simp only [q93_222, q93_223, q93_226, q93_227, q93_228, q93_229, if_neg z1]
  refine a66 S v hp (fun w S => ?_)
  simp only [rl_some, e4, q93_232, q93_235, q93_236, q93_237, if_neg (i32_n (x := foldN (fun a j => a + dt d j) (dn d) 0 0) rfl)]
  refine a66 S v hp (fun w S => ?_)
  simp only [rl_some, e5]
  by_cases cd : deD d U = 0
  · rw [bI_f (fun q => q cd)]
    simp only [q93_240, q93_253, q93_254, q93_258, q93_259, q93_260, if_true]
    exact l93b v g 4 1 w (by omega) (by omega) S KF
  · rw [bI_t cd]
    have hm := Int32.not_lt.mpr (many g cd)
    simp only [q93_240, q93_243, q93_244, q93_245, q93_247, if_neg z1]
    refine a66 S v hp (fun w S => ?_)
    simp only [rl_some, e6, q93_250, q93_253, q93_254, q93_258, q93_259, q93_260, if_neg hm]
    exact l93b v g 4 1 w (by omega) (by omega) S KF
end A1
