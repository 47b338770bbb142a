section XR
variable {p : Program} {l : Launch} {e : Env} {R : Room} {s : State} {m : MethodId} {args : Array Value} {below : List Frame} {meth : Method} {c : Code} {Qf : State → Prop} {D : va_G} {A : Nat → Prop} {H0 : Heap} {ρ0 κ0 : Nat → Nat} {y b pc pc1 : Nat} {ls st ls1 st1 : List Value} {w w1 : xW} {i : Instr}
theorem x_cd_eq (hC : xCx p R s m args meth c D A H0 y) {cd : Jvm.ClassFile.Cond} {off : Int} {x : Int32} {r : List Value} {t : Nat} {H : Heap} {locs : List Loc} {cs sl : Nat} {als : Array Slot} (hd : decode (m_bc y) pc = .ok (.ifCond cd off, 3)) (ht : (pc : Int) + off = (t : Int)) (k1 : x_cd cd x 0 = true → W p l e R s m args below meth c H locs cs sl Qf (F0 m t als r)) (k2 : x_cd cd x 0 = false → W p l e R s m args below meth c H locs cs sl Qf (F0 m (pc + 3) als r)) : W p l e R s m args below meth c H locs cs sl Qf (F0 m pc als (.int x :: r)) := by
  cases cd
  · exact lv_if_eq hC.1 hC.2.1 hd ht (fun h => k1 (by simp [x_cd, h])) (fun h => k2 (by simp [x_cd, h]))
  · exact lv_if_ne hC.1 hC.2.1 hd ht (fun h => k1 (by simpa [x_cd] using h)) (fun h => k2 (by simpa [x_cd] using h))
  · exact lv_if_lt hC.1 hC.2.1 hd ht (fun h => k1 (by simpa [x_cd] using h)) (fun h => k2 (by simpa [x_cd] using h))
  · exact lv_if_ge hC.1 hC.2.1 hd ht (fun h => k1 (by simpa [x_cd] using h)) (fun h => k2 (by simpa [x_cd] using h))
  · exact lv_if_gt hC.1 hC.2.1 hd ht (fun h => k1 (by simpa [x_cd] using h)) (fun h => k2 (by simpa [x_cd] using h))
  · exact lv_if_le hC.1 hC.2.1 hd ht (fun h => k1 (by simpa [x_cd] using h)) (fun h => k2 (by simpa [x_cd] using h))
theorem x_cd_cm (hC : xCx p R s m args meth c D A H0 y) {cd : Jvm.ClassFile.Cond} {off : Int} {x z : Int32} {r : List Value} {t : Nat} {H : Heap} {locs : List Loc} {cs sl : Nat} {als : Array Slot} (hd : decode (m_bc y) pc = .ok (.if_icmp cd off, 3)) (ht : (pc : Int) + off = (t : Int)) (k1 : x_cd cd x z = true → W p l e R s m args below meth c H locs cs sl Qf (F0 m t als r)) (k2 : x_cd cd x z = false → W p l e R s m args below meth c H locs cs sl Qf (F0 m (pc + 3) als r)) : W p l e R s m args below meth c H locs cs sl Qf (F0 m pc als (.int z :: .int x :: r)) := by
  cases cd
  · exact lv_icmp_eq hC.1 hC.2.1 hd ht (fun h => k1 (by simp [x_cd, h])) (fun h => k2 (by simp [x_cd, h]))
  · exact lv_icmp_ne hC.1 hC.2.1 hd ht (fun h => k1 (by simpa [x_cd] using h)) (fun h => k2 (by simpa [x_cd] using h))
  · exact lv_icmp_lt hC.1 hC.2.1 hd ht (fun h => k1 (by simpa [x_cd] using h)) (fun h => k2 (by simpa [x_cd] using h))
  · exact lv_icmp_ge hC.1 hC.2.1 hd ht (fun h => k1 (by simpa [x_cd] using h)) (fun h => k2 (by simpa [x_cd] using h))
  · exact lv_icmp_gt hC.1 hC.2.1 hd ht (fun h => k1 (by simpa [x_cd] using h)) (fun h => k2 (by simpa [x_cd] using h))
  · exact lv_icmp_le hC.1 hC.2.1 hd ht (fun h => k1 (by simpa [x_cd] using h)) (fun h => k2 (by simpa [x_cd] using h))
theorem x_dl {bc : ByteArray} {len : Nat} (h : decode bc pc = .ok (i, len)) (hl : len = xlen i) : decode bc pc = .ok (i, xlen i) := hl ▸ h
theorem lv_cats {ρ : Nat → Nat} {r : List Value} (h : (r.map Value.category).sum ≤ 8) : ((r.map (cv ρ)).map fun v => v.category).sum ≤ 8 := by
  rw [List.map_map, show ((fun v : Value => v.category) ∘ cv ρ) = Value.category from funext fun v => cv_cat ρ v]
  exact h
/-- one step that goes on -/
theorem xs_snd (hC : xCx p R s m args meth c D A H0 y) (hml : ls.length = m_ml y) {len : Nat} (hd : decode (m_bc y) pc = .ok (i, len)) (hlen : len = xlen i ∨ x_isw i) (hs : xs y b pc i ls st w = some (.inl (pc1, ls1, st1, w1))) (kk : xGo p l e R s m args below meth c Qf D A H0 ρ0 κ0 y b pc1 ls1 st1 w1) : xGo p l e R s m args below meth c Qf D A H0 ρ0 κ0 y b pc ls st w := by
  have hC2 := hC
  obtain ⟨hx, hb, hml2, hown, hts, hin, hR, hA, hK, hy⟩ := hC2
  cases i with
  | tableswitch d lo hi offs =>
    simp only [xs] at hs
    split at hs
    · rename_i x r
      split at hs
      · rename_i t ht
        cases hs
        refine xGo_pure hC (fun ρ H locs cs sl als _ _ hl k => ?_) kk
        unfold x_sw at ht
        split at ht
        · rename_i h1
          exact lv_tableOut hx hb hd h1 (x_jmp_ok ht) (k als hl)
        · rename_i h1
          split at ht
          · rename_i o ho
            exact lv_tableIn hx hb hd (fun q => h1 (Or.inl q)) (fun q => h1 (Or.inr q)) ho (x_jmp_ok ht) (k als hl)
          · cases ht
      · cases hs
    · cases hs
  | iconst n =>
    have hl := hlen.resolve_right (fun q => q)
    subst hl
    simp only [xs, x_go] at hs
    cases hs
    exact xGo_pure hC (fun ρ H locs cs sl als _ _ hl k => lv_iconst hx hb hd rfl (k als hl)) kk
  | bipush n =>
    have hl := hlen.resolve_right (fun q => q)
    subst hl
    simp only [xs, x_go] at hs
    cases hs
    exact xGo_pure hC (fun ρ H locs cs sl als _ _ hl k => lv_bipush hx hb hd rfl (k als hl)) kk
  | sipush n =>
    have hl := hlen.resolve_right (fun q => q)
    subst hl
    simp only [xs, x_go] at hs
    cases hs
    exact xGo_pure hC (fun ρ H locs cs sl als _ _ hl k => lv_sipush hx hb hd rfl (k als hl)) kk
  | lconst n =>
    have hl := hlen.resolve_right (fun q => q)
    subst hl
    simp only [xs, x_go] at hs
    cases hs
    exact xGo_pure hC (fun ρ H locs cs sl als _ _ hl k => lv_lconst hx hb hd rfl (k als hl)) kk
  | iload_n k =>
    have hl := hlen.resolve_right (fun q => q)
    subst hl
    exact sn_iload hC (fun h k => lv_iload_n hx hb hd rfl h k) hs kk
  | iload k =>
    have hl := hlen.resolve_right (fun q => q)
    subst hl
    exact sn_iload hC (fun h k => lv_iload hx hb hd h k) hs kk
  | lload_n k =>
    have hl := hlen.resolve_right (fun q => q)
    subst hl
    exact sn_lload hC (fun h k => lv_lload_n hx hb hd rfl h k) hs kk
  | lload k =>
    have hl := hlen.resolve_right (fun q => q)
    subst hl
    exact sn_lload hC (fun h k => lv_lload hx hb hd h k) hs kk
  | aload_n k =>
    have hl := hlen.resolve_right (fun q => q)
    subst hl
    exact sn_aload hC (fun h k => lv_aload_n hx hb hd rfl h k) hs kk
  | istore_n k =>
    have hl := hlen.resolve_right (fun q => q)
    subst hl
    exact sn_istore hC hml (fun h1 h2 h3 k => lv_istore_n hx hb hd rfl h1 h2 h3 k) hs kk
  | istore k =>
    have hl := hlen.resolve_right (fun q => q)
    subst hl
    exact sn_istore hC hml (fun h1 h2 h3 k => lv_istore hx hb hd h1 h2 h3 k) hs kk
  | lstore_n k =>
    have hl := hlen.resolve_right (fun q => q)
    subst hl
    exact sn_lstore hC hml (fun h1 h2 h3 k => lv_lstore_n hx hb hd rfl h1 h2 h3 k) hs kk
  | lstore k =>
    have hl := hlen.resolve_right (fun q => q)
    subst hl
    exact sn_lstore hC hml (fun h1 h2 h3 k => lv_lstore hx hb hd h1 h2 h3 k) hs kk
  | astore_n k =>
    have hl := hlen.resolve_right (fun q => q)
    subst hl
    exact sn_astore hC hml (fun h1 h2 h3 k => lv_astore_n hx hb hd rfl h1 h2 h3 k) hs kk
  | iinc k n =>
    have hl := hlen.resolve_right (fun q => q)
    subst hl
    exact sn_iinc hC hml hd hs kk
  | iadd => exact sn_ii hC (fun k => lv_iadd hx hb (x_dl hd (hlen.resolve_right (fun q => q))) k) hs kk
  | isub => exact sn_ii hC (fun k => lv_isub hx hb (x_dl hd (hlen.resolve_right (fun q => q))) k) hs kk
  | imul => exact sn_ii hC (fun k => lv_imul hx hb (x_dl hd (hlen.resolve_right (fun q => q))) k) hs kk
  | iand => exact sn_ii hC (fun k => lv_iand hx hb (x_dl hd (hlen.resolve_right (fun q => q))) k) hs kk
  | ior => exact sn_ii hC (fun k => lv_ior hx hb (x_dl hd (hlen.resolve_right (fun q => q))) k) hs kk
  | ixor => exact sn_ii hC (fun k => lv_ixor hx hb (x_dl hd (hlen.resolve_right (fun q => q))) k) hs kk
  | ishl => exact sn_ii hC (fun k => lv_ishl hx hb (x_dl hd (hlen.resolve_right (fun q => q))) k) hs kk
  | ishr => exact sn_ii hC (fun k => lv_ishr hx hb (x_dl hd (hlen.resolve_right (fun q => q))) k) hs kk
  | iushr => exact sn_ii hC (fun k => lv_iushr hx hb (x_dl hd (hlen.resolve_right (fun q => q))) rfl k) hs kk
  | ladd => exact sn_ll hC (fun k => lv_ladd hx hb (x_dl hd (hlen.resolve_right (fun q => q))) k) hs kk
  | lsub => exact sn_ll hC (fun k => lv_lsub hx hb (x_dl hd (hlen.resolve_right (fun q => q))) k) hs kk
  | lmul => exact sn_ll hC (fun k => lv_lmul hx hb (x_dl hd (hlen.resolve_right (fun q => q))) k) hs kk
  | idiv =>
    have hl := hlen.resolve_right (fun q => q)
    subst hl
    simp only [xs, x_go] at hs
    split at hs
    · split at hs
      · cases hs
      · rename_i hz
        cases hs
        exact xGo_pure hC (fun ρ H locs cs sl als _ _ hl k => lv_idiv hx hb hd hz (k als hl)) kk
    · cases hs
  | irem =>
    have hl := hlen.resolve_right (fun q => q)
    subst hl
    simp only [xs, x_go] at hs
    split at hs
    · split at hs
      · cases hs
      · rename_i hz
        cases hs
        exact xGo_pure hC (fun ρ H locs cs sl als _ _ hl k => lv_irem hx hb hd hz (k als hl)) kk
    · cases hs
  | ldiv =>
    have hl := hlen.resolve_right (fun q => q)
    subst hl
    simp only [xs, x_go] at hs
    split at hs
    · split at hs
      · cases hs
      · rename_i hz
        cases hs
        exact xGo_pure hC (fun ρ H locs cs sl als _ _ hl k => lv_ldiv hx hb hd hz (k als hl)) kk
    · cases hs
  | lrem =>
    have hl := hlen.resolve_right (fun q => q)
    subst hl
    simp only [xs, x_go] at hs
    split at hs
    · split at hs
      · cases hs
      · rename_i hz
        cases hs
        exact xGo_pure hC (fun ρ H locs cs sl als _ _ hl k => lv_lrem hx hb hd hz (k als hl)) kk
    · cases hs
  | ineg =>
    have hl := hlen.resolve_right (fun q => q)
    subst hl
    simp only [xs, x_go] at hs
    split at hs
    · cases hs
      exact xGo_pure hC (fun ρ H locs cs sl als _ _ hl k => lv_ineg hx hb hd (k als hl)) kk
    · cases hs
  | lneg =>
    have hl := hlen.resolve_right (fun q => q)
    subst hl
    simp only [xs, x_go] at hs
    split at hs
    · cases hs
      exact xGo_pure hC (fun ρ H locs cs sl als _ _ hl k => lv_lneg hx hb hd (k als hl)) kk
    · cases hs
  | lcmp =>
    have hl := hlen.resolve_right (fun q => q)
    subst hl
    simp only [xs, x_go] at hs
    split at hs
    · cases hs
      exact xGo_pure hC (fun ρ H locs cs sl als _ _ hl k => W.lcmp hx hb hd (k als hl)) kk
    · cases hs
  | i2l =>
    have hl := hlen.resolve_right (fun q => q)
    subst hl
    simp only [xs, x_go] at hs
    split at hs
    · cases hs
      exact xGo_pure hC (fun ρ H locs cs sl als _ _ hl k => lv_i2l hx hb hd rfl (k als hl)) kk
    · cases hs
  | i2c =>
    have hl := hlen.resolve_right (fun q => q)
    subst hl
    simp only [xs, x_go] at hs
    split at hs
    · cases hs
      exact xGo_pure hC (fun ρ H locs cs sl als _ _ hl k => lv_i2c hx hb hd rfl (k als hl)) kk
    · cases hs
  | dup =>
    have hl := hlen.resolve_right (fun q => q)
    subst hl
    simp only [xs, x_go] at hs
    split at hs
    · split at hs
      · rename_i hz
        cases hs
        exact xGo_pure hC (fun ρ H locs cs sl als _ _ hl k => lv_dup hx hb hd (by rw [cv_cat]; exact hz) (k als hl)) kk
      · cases hs
    · cases hs
  | dup2 =>
    have hl := hlen.resolve_right (fun q => q)
    subst hl
    simp only [xs, x_go] at hs
    split at hs
    · split at hs
      · rename_i hz
        cases hs
        exact xGo_pure hC (fun ρ H locs cs sl als _ _ hl k => lv_dup2_11 hx hb hd (by rw [cv_cat]; exact hz.1) (by rw [cv_cat]; exact hz.2) (k als hl)) kk
      · cases hs
    · cases hs
  | pop =>
    have hl := hlen.resolve_right (fun q => q)
    subst hl
    simp only [xs, x_go] at hs
    split at hs
    · split at hs
      · rename_i hz
        cases hs
        exact xGo_pure hC (fun ρ H locs cs sl als _ _ hl k => lv_pop hx hb hd (by rw [cv_cat]; exact hz) (k als hl)) kk
      · cases hs
    · cases hs
  | ifCond cd o =>
    have hl := hlen.resolve_right (fun q => q)
    subst hl
    simp only [xs] at hs
    split at hs
    · exact sn_br hC (fun ht k1 k2 => x_cd_eq hC hd ht k1 k2) hs kk
    · cases hs
  | if_icmp cd o =>
    have hl := hlen.resolve_right (fun q => q)
    subst hl
    simp only [xs] at hs
    split at hs
    · exact sn_br hC (fun ht k1 k2 => x_cd_cm hC hd ht k1 k2) hs kk
    · cases hs
  | goto o =>
    have hl := hlen.resolve_right (fun q => q)
    subst hl
    simp only [xs, x_jgo] at hs
    split at hs
    · rename_i t ht
      cases hs
      exact xGo_pure hC (fun ρ H locs cs sl als _ _ hl k => lv_goto hx hb hd (x_jmp_ok ht) (k als hl)) kk
    · cases hs
  | ldc k =>
    have hl := hlen.resolve_right (fun q => q)
    subst hl
    simp only [xs, x_go] at hs
    split at hs
    · rename_i v hv
      cases hs
      exact xGo_pure hC (fun ρ H locs cs sl als _ _ hl k => lv_ldc hx hb hown (hts _ (x_cs_int hv)) hd (k als hl)) kk
    · cases hs
  | ldc_w k =>
    have hl := hlen.resolve_right (fun q => q)
    subst hl
    simp only [xs, x_go] at hs
    split at hs
    · rename_i v hv
      cases hs
      exact xGo_pure hC (fun ρ H locs cs sl als _ _ hl k => lv_ldcw hx hb hown (hts _ (x_cs_int hv)) hd (k als hl)) kk
    · cases hs
  | ldc2_w k =>
    have hl := hlen.resolve_right (fun q => q)
    subst hl
    simp only [xs, x_go] at hs
    split at hs
    · rename_i v hv
      cases hs
      exact xGo_pure hC (fun ρ H locs cs sl als _ _ hl k => lv_ldc2 hx hb hown (hts _ (x_cs_long hv)) hd (k als hl)) kk
    · cases hs
  | getfield k =>
    have hl := hlen.resolve_right (fun q => q)
    subst hl
    simp only [xs] at hs
    split at hs
    · rename_i ci f hf
      exact sn_getf hC hf hd hs kk
    · cases hs
  | putfield k =>
    have hl := hlen.resolve_right (fun q => q)
    subst hl
    simp only [xs] at hs
    split at hs
    · rename_i ci f hf
      exact sn_putf hC hf hd hs kk
    · cases hs
  | iaload => exact sn_iald hC (x_dl hd (hlen.resolve_right (fun q => q))) hs kk
  | caload => exact sn_cald hC (x_dl hd (hlen.resolve_right (fun q => q))) hs kk
  | laload => exact sn_lald hC (x_dl hd (hlen.resolve_right (fun q => q))) hs kk
  | aaload => exact sn_aald hC (x_dl hd (hlen.resolve_right (fun q => q))) hs kk
  | iastore => exact sn_iast hC (x_dl hd (hlen.resolve_right (fun q => q))) hs kk
  | castore => exact sn_cast hC (x_dl hd (hlen.resolve_right (fun q => q))) hs kk
  | lastore => exact sn_last hC (x_dl hd (hlen.resolve_right (fun q => q))) hs kk
  | aastore => exact sn_aast hC (x_dl hd (hlen.resolve_right (fun q => q))) hs kk
  | arraylength => exact sn_alen hC (x_dl hd (hlen.resolve_right (fun q => q))) hs kk
  | new k => exact sn_nobj hC (x_dl hd (hlen.resolve_right (fun q => q))) hs kk
  | newarray t => exact sn_narr hC (x_dl hd (hlen.resolve_right (fun q => q))) hs kk
  | anewarray k => exact sn_nref hC (x_dl hd (hlen.resolve_right (fun q => q))) hs kk
  | multianewarray k n =>
    have hl := hlen.resolve_right (fun q => q)
    subst hl
    simp only [xs] at hs
    split at hs
    · rename_i hn
      subst hn
      exact sn_ngrid hC hd hs kk
    · cases hs
  | invokevirtual k =>
    exfalso
    simp only [xs, x_invV, x_call] at hs
    repeat' split at hs
    all_goals cases hs
  | invokestatic k =>
    have hl := hlen.resolve_right (fun q => q)
    subst hl
    obtain ⟨r1, r2, r3, r4⟩ := m_room hC
    simp only [xs, x_invS, x_call, x_go] at hs
    split at hs
    · repeat' split at hs
      all_goals cases hs
    · repeat' split at hs
      all_goals cases hs
    · rename_i t hk
      obtain ⟨q, w1, w2, w3⟩ := x_ml_ok hk
      split at hs
      · split at hs
        · rename_i hz
          cases hs
          exact xGo_pure hC (fun ρ H locs cs sl als hcs hsl hl k => va_mabs_long hx hb (hml2.trans hl.1.symm) hown (hts _ (x_gwI (x_w w1) rfl)) (hts _ (x_gwI (x_w w2) rfl)) (hts _ (x_gwI (x_w (m_ini_math)) rfl)) (hts _ (x_gwI (x_w w3) rfl)) (by omega) (by have := lv_cats (ρ := ρ) hz.1; omega) hcs hsl hd (k als hl)) kk
        · cases hs
      · cases hs
    · rename_i t hk
      obtain ⟨q, w1, w2, w3⟩ := x_ml_ok hk
      split at hs
      · split at hs
        · rename_i hz
          cases hs
          exact xGo_pure hC (fun ρ H locs cs sl als hcs hsl hl k => va_mmax_long hx hb (hml2.trans hl.1.symm) hown (hts _ (x_gwI (x_w w1) rfl)) (hts _ (x_gwI (x_w w2) rfl)) (hts _ (x_gwI (x_w (m_ini_math)) rfl)) (hts _ (x_gwI (x_w w3) rfl)) (by omega) (by have := lv_cats (ρ := ρ) hz.1; omega) hcs hsl hd (k als hl)) kk
        · cases hs
      · cases hs
    · cases hs
  | invokespecial k =>
    have hl := hlen.resolve_right (fun q => q)
    subst hl
    obtain ⟨r1, r2, r3, r4⟩ := m_room hC
    simp only [xs, x_invI, x_call, x_go] at hs
    split at hs
    · repeat' split at hs
      all_goals cases hs
    · rename_i t hk
      obtain ⟨q, w1, w2, w3⟩ := x_ml_ok hk
      split at hs
      · split at hs
        · rename_i hz
          cases hs
          exact xGo_pure hC (fun ρ H locs cs sl als hcs hsl hl k => W.objInit hx hb hown (hts _ (x_gwI (x_w w1) rfl)) (hts _ (x_gwI (x_w w2) rfl)) (hts _ (x_gwI (x_w w3) rfl)) rfl (hl.1.trans hml2.symm) rfl hd (by omega) (by have := lv_cats (ρ := ρ) hz.1; show 2 * 0 + _ + 12 ≤ _; omega) (k als hl)) kk
        · cases hs
      · cases hs
    · cases hs
  | ireturn =>
    exfalso
    simp only [xs, x_iret, x_ret] at hs
    repeat' split at hs
    all_goals cases hs
  | lreturn =>
    exfalso
    simp only [xs, x_lret, x_ret] at hs
    repeat' split at hs
    all_goals cases hs
  | return_ =>
    exfalso
    simp only [xs, x_vret, x_ret] at hs
    repeat' split at hs
    all_goals cases hs
  | _ =>
    exfalso
    simp only [xs, reduceCtorEq] at hs
end XR
