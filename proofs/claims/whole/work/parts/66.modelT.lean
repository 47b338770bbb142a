theorem x_14 (a : Int32) : (a.toInt < 0 ∨ 13 < a.toInt) ∨ a = 0 ∨ a = 1 ∨ a = 2 ∨ a = 3 ∨ a = 4 ∨ a = 5 ∨ a = 6 ∨ a = 7 ∨ a = 8 ∨ a = 9 ∨ a = 10 ∨ a = 11 ∨ a = 12 ∨ a = 13 := by
  have e : ∀ z : Int32, a.toInt = z.toInt → a = z := fun z h => Int32.toInt_inj.mp h
  have h : (a.toInt < 0 ∨ 13 < a.toInt) ∨ a.toInt = 0 ∨ a.toInt = 1 ∨ a.toInt = 2 ∨ a.toInt = 3 ∨ a.toInt = 4 ∨ a.toInt = 5 ∨ a.toInt = 6 ∨ a.toInt = 7 ∨ a.toInt = 8 ∨ a.toInt = 9 ∨ a.toInt = 10 ∨ a.toInt = 11 ∨ a.toInt = 12 ∨ a.toInt = 13 := by omega
  rcases h with h | h | h | h | h | h | h | h | h | h | h | h | h | h | h
  · exact Or.inl h
  all_goals refine Or.inr ?_
  · exact Or.inl (e 0 h)
  · exact Or.inr (Or.inl (e 1 h))
  · exact Or.inr (Or.inr (Or.inl (e 2 h)))
  · exact Or.inr (Or.inr (Or.inr (Or.inl (e 3 h))))
  · exact Or.inr (Or.inr (Or.inr (Or.inr (Or.inl (e 4 h)))))
  · exact Or.inr (Or.inr (Or.inr (Or.inr (Or.inr (Or.inl (e 5 h))))))
  · exact Or.inr (Or.inr (Or.inr (Or.inr (Or.inr (Or.inr (Or.inl (e 6 h)))))))
  · exact Or.inr (Or.inr (Or.inr (Or.inr (Or.inr (Or.inr (Or.inr (Or.inl (e 7 h))))))))
  · exact Or.inr (Or.inr (Or.inr (Or.inr (Or.inr (Or.inr (Or.inr (Or.inr (Or.inl (e 8 h)))))))))
  · exact Or.inr (Or.inr (Or.inr (Or.inr (Or.inr (Or.inr (Or.inr (Or.inr (Or.inr (Or.inl (e 9 h))))))))))
  · exact Or.inr (Or.inr (Or.inr (Or.inr (Or.inr (Or.inr (Or.inr (Or.inr (Or.inr (Or.inr (Or.inl (e 10 h)))))))))))
  · exact Or.inr (Or.inr (Or.inr (Or.inr (Or.inr (Or.inr (Or.inr (Or.inr (Or.inr (Or.inr (Or.inr (Or.inl (e 11 h))))))))))))
  · exact Or.inr (Or.inr (Or.inr (Or.inr (Or.inr (Or.inr (Or.inr (Or.inr (Or.inr (Or.inr (Or.inr (Or.inr (Or.inl (e 12 h)))))))))))))
  · exact Or.inr (Or.inr (Or.inr (Or.inr (Or.inr (Or.inr (Or.inr (Or.inr (Or.inr (Or.inr (Or.inr (Or.inr (Or.inr (e 13 h)))))))))))))
/-- what the reference counts -/
def ctM (m : xM) (n U : Nat) : Nat → Int32
  | 0 => m.df 0
  | 1 => m.df 1
  | 2 => m.df 2
  | 3 => m.df 3
  | 4 => foldN (fun a j => a + tD m.df j) n 0 0
  | 5 => bI (¬ dtF U (mN m n) = 0)
  | 6 => 4 + m.df 1
  | 7 => foldN (fun a j => a + tD m.df j) n 0 0 - (4 + m.df 1)
  | 8 => bI (anyN (psF (m.df 2) n (lD m.df) (rD m.df) (tD m.df) (mD m.df)) n 0 = true)
  | 9 => foldN (fun a j => if swF n (lD m.df) (rD m.df) (tD m.df) j ≤ nI j then a else a + 1) n 0 0
  | 10 => foldN (fun a z => a + bI (¬ faF m.df n z = -1)) 5 0 0
  | 11 => nI m.st
  | 12 => nI m.ty
  | _ => foldN (fun a i => a + bI (neM m n U i)) n 0 0
section MRT
variable {b : Nat} {m : xM} {n U : Nat} {Q : Option Value → xW → Prop}
theorem c127 {w : xW} {a : Int32} (D : isM w m) (v : vM m.df n) (rg : vR n (tD m.df) (mD m.df)) (hp : 4 + m.df 1 = nI U) (hU : U = 4 ∨ U = 5) (hw : m.wr = -1) (K0 : (a.toInt < 0 ∨ 13 < a.toInt) → Q (some (.int (-2000000001))) w) (K : ∀ i w2 m2, i < 14 → a = nI i → fr w w2 51 60 → isM w2 m2 → kM m m2 → Q (some (.int (ctM m n U i))) w2) : Wp 127 b 0 [.ref 51, .int a] [] w Q := by
  have h0 := D.1
  have h1 := D.2.1
  have z1 : ¬ (1 : Int32) = 0 := by decide
  have B1 : ∀ (c : Prop) [Decidable c] (w2 : xW) (y : Int32), Q (some (.int (bI c))) w2 → Wp 127 b 88 [.ref 51, .int y] [.int (bI c)] w2 Q := by
    intro c _ w2 y q
    by_cases d : c
    · rw [bI_t d] at q ⊢
      simp only [q127_88, q127_91, q127_92, q127_95, q127_96, gF0, gF1, gF2, gF3, gF4, gF5, gF6, gF7, gF8, gF9, gF10, gF11, gF12, gF13, gF14, gF15, gF16, gF17, gF18, gF19, pF0, pF1, pF2, pF3, pF4, pF5, pF6, pF7, pF8, pF9, pF10, pF11, pF12, pF13, pF14, pF15, pF16, pF17, pF18, pF19, aI_mk, aL_mk, aA_mk, sI_mk, sL_mk, sA_mk, isO_mk, rl_some, rl_none, true_and, and_true, true_or, or_true, wr_1, z1, if_false]
      exact q
    · rw [bI_f d] at q ⊢
      simp only [q127_88, q127_91, q127_92, q127_95, q127_96, gF0, gF1, gF2, gF3, gF4, gF5, gF6, gF7, gF8, gF9, gF10, gF11, gF12, gF13, gF14, gF15, gF16, gF17, gF18, gF19, pF0, pF1, pF2, pF3, pF4, pF5, pF6, pF7, pF8, pF9, pF10, pF11, pF12, pF13, pF14, pF15, pF16, pF17, pF18, pF19, aI_mk, aL_mk, aA_mk, sI_mk, sL_mk, sA_mk, isO_mk, rl_some, rl_none, true_and, and_true, true_or, or_true, wr_1, if_true]
      exact q
  rw [q127_0]
  rcases x_14 a with h | rfl | rfl | rfl | rfl | rfl | rfl | rfl | rfl | rfl | rfl | rfl | rfl | rfl | rfl
  · rw [q127_1_d h]
    simp only [q127_150, q127_152]
    exact K0 h
  · have KK := K 0 w m (by omega) rfl fr.rf D kM.rf
    rw [q127_1_c0]
    simp only [q127_72, q127_73, q127_76, q127_77, q127_78, gF0, gF1, gF2, gF3, gF4, gF5, gF6, gF7, gF8, gF9, gF10, gF11, gF12, gF13, gF14, gF15, gF16, gF17, gF18, gF19, pF0, pF1, pF2, pF3, pF4, pF5, pF6, pF7, pF8, pF9, pF10, pF11, pF12, pF13, pF14, pF15, pF16, pF17, pF18, pF19, aI_mk, aL_mk, aA_mk, sI_mk, sL_mk, sA_mk, isO_mk, rl_some, rl_none, true_and, and_true, true_or, or_true, wr_1, h0, oM, h1, p112, Int32.reduceToNatClampNeg]
    exact KK
  · have KK := K 1 w m (by omega) rfl fr.rf D kM.rf
    rw [q127_1_c1]
    simp only [q127_72, q127_73, q127_76, q127_77, q127_78, gF0, gF1, gF2, gF3, gF4, gF5, gF6, gF7, gF8, gF9, gF10, gF11, gF12, gF13, gF14, gF15, gF16, gF17, gF18, gF19, pF0, pF1, pF2, pF3, pF4, pF5, pF6, pF7, pF8, pF9, pF10, pF11, pF12, pF13, pF14, pF15, pF16, pF17, pF18, pF19, aI_mk, aL_mk, aA_mk, sI_mk, sL_mk, sA_mk, isO_mk, rl_some, rl_none, true_and, and_true, true_or, or_true, wr_1, h0, oM, h1, p112, Int32.reduceToNatClampNeg]
    exact KK
  · have KK := K 2 w m (by omega) rfl fr.rf D kM.rf
    rw [q127_1_c2]
    simp only [q127_72, q127_73, q127_76, q127_77, q127_78, gF0, gF1, gF2, gF3, gF4, gF5, gF6, gF7, gF8, gF9, gF10, gF11, gF12, gF13, gF14, gF15, gF16, gF17, gF18, gF19, pF0, pF1, pF2, pF3, pF4, pF5, pF6, pF7, pF8, pF9, pF10, pF11, pF12, pF13, pF14, pF15, pF16, pF17, pF18, pF19, aI_mk, aL_mk, aA_mk, sI_mk, sL_mk, sA_mk, isO_mk, rl_some, rl_none, true_and, and_true, true_or, or_true, wr_1, h0, oM, h1, p112, Int32.reduceToNatClampNeg]
    exact KK
  · have KK := K 3 w m (by omega) rfl fr.rf D kM.rf
    rw [q127_1_c3]
    simp only [q127_72, q127_73, q127_76, q127_77, q127_78, gF0, gF1, gF2, gF3, gF4, gF5, gF6, gF7, gF8, gF9, gF10, gF11, gF12, gF13, gF14, gF15, gF16, gF17, gF18, gF19, pF0, pF1, pF2, pF3, pF4, pF5, pF6, pF7, pF8, pF9, pF10, pF11, pF12, pF13, pF14, pF15, pF16, pF17, pF18, pF19, aI_mk, aL_mk, aA_mk, sI_mk, sL_mk, sA_mk, isO_mk, rl_some, rl_none, true_and, and_true, true_or, or_true, wr_1, h0, oM, h1, p112, Int32.reduceToNatClampNeg]
    exact KK
  · have KK := K 4 w m (by omega) rfl fr.rf D kM.rf
    rw [q127_1_c4]
    simp only [q127_79, q127_80, q127_83, gF0, gF1, gF2, gF3, gF4, gF5, gF6, gF7, gF8, gF9, gF10, gF11, gF12, gF13, gF14, gF15, gF16, gF17, gF18, gF19, pF0, pF1, pF2, pF3, pF4, pF5, pF6, pF7, pF8, pF9, pF10, pF11, pF12, pF13, pF14, pF15, pF16, pF17, pF18, pF19, aI_mk, aL_mk, aA_mk, sI_mk, sL_mk, sA_mk, isO_mk, rl_some, rl_none, true_and, and_true, true_or, or_true, wr_1, h0, oM, c123 D v]
    exact KK
  · rw [q127_1_c5]
    simp only [q127_84, q127_85, gF0, gF1, gF2, gF3, gF4, gF5, gF6, gF7, gF8, gF9, gF10, gF11, gF12, gF13, gF14, gF15, gF16, gF17, gF18, gF19, pF0, pF1, pF2, pF3, pF4, pF5, pF6, pF7, pF8, pF9, pF10, pF11, pF12, pF13, pF14, pF15, pF16, pF17, pF18, pF19, aI_mk, aL_mk, aA_mk, sI_mk, sL_mk, sA_mk, isO_mk, rl_some, rl_none, true_and, and_true, true_or, or_true, wr_1, h0, oM]
    refine c108 D v hp hU (fun w2 m2 e2 D2 k2 _ _ _ => ?_)
    exact B1 _ w2 5 (K 5 w2 m2 (by omega) rfl e2 D2 k2)
  · have KK := K 6 w m (by omega) rfl fr.rf D kM.rf
    rw [q127_1_c6]
    simp only [q127_97, q127_98, q127_101, gF0, gF1, gF2, gF3, gF4, gF5, gF6, gF7, gF8, gF9, gF10, gF11, gF12, gF13, gF14, gF15, gF16, gF17, gF18, gF19, pF0, pF1, pF2, pF3, pF4, pF5, pF6, pF7, pF8, pF9, pF10, pF11, pF12, pF13, pF14, pF15, pF16, pF17, pF18, pF19, aI_mk, aL_mk, aA_mk, sI_mk, sL_mk, sA_mk, isO_mk, rl_some, rl_none, true_and, and_true, true_or, or_true, wr_1, h0, oM, c102 D]
    exact KK
  · have KK := K 7 w m (by omega) rfl fr.rf D kM.rf
    rw [q127_1_c7]
    simp only [q127_102, q127_103, q127_106, q127_107, q127_110, q127_111, gF0, gF1, gF2, gF3, gF4, gF5, gF6, gF7, gF8, gF9, gF10, gF11, gF12, gF13, gF14, gF15, gF16, gF17, gF18, gF19, pF0, pF1, pF2, pF3, pF4, pF5, pF6, pF7, pF8, pF9, pF10, pF11, pF12, pF13, pF14, pF15, pF16, pF17, pF18, pF19, aI_mk, aL_mk, aA_mk, sI_mk, sL_mk, sA_mk, isO_mk, rl_some, rl_none, true_and, and_true, true_or, or_true, wr_1, h0, oM, c123 D v, c102 D]
    exact KK
  · have KK := K 8 w m (by omega) rfl fr.rf D kM.rf
    rw [q127_1_c8]
    simp only [q127_112, q127_113, gF0, gF1, gF2, gF3, gF4, gF5, gF6, gF7, gF8, gF9, gF10, gF11, gF12, gF13, gF14, gF15, gF16, gF17, gF18, gF19, pF0, pF1, pF2, pF3, pF4, pF5, pF6, pF7, pF8, pF9, pF10, pF11, pF12, pF13, pF14, pF15, pF16, pF17, pF18, pF19, aI_mk, aL_mk, aA_mk, sI_mk, sL_mk, sA_mk, isO_mk, rl_some, rl_none, true_and, and_true, true_or, or_true, wr_1, h0, oM, c140 D v rg]
    by_cases d : anyN (psF (m.df 2) n (lD m.df) (rD m.df) (tD m.df) (mD m.df)) n 0 = true
    · have e : ctM m n U 8 = 1 := bI_t d
      rw [e] at KK
      rw [bI_t d]
      simp only [q127_116, q127_119, q127_120, q127_123, q127_124, gF0, gF1, gF2, gF3, gF4, gF5, gF6, gF7, gF8, gF9, gF10, gF11, gF12, gF13, gF14, gF15, gF16, gF17, gF18, gF19, pF0, pF1, pF2, pF3, pF4, pF5, pF6, pF7, pF8, pF9, pF10, pF11, pF12, pF13, pF14, pF15, pF16, pF17, pF18, pF19, aI_mk, aL_mk, aA_mk, sI_mk, sL_mk, sA_mk, isO_mk, rl_some, rl_none, true_and, and_true, true_or, or_true, wr_1, z1, if_false]
      exact KK
    · have e : ctM m n U 8 = 0 := bI_f d
      rw [e] at KK
      rw [bI_f d]
      simp only [q127_116, q127_119, q127_120, q127_123, q127_124, gF0, gF1, gF2, gF3, gF4, gF5, gF6, gF7, gF8, gF9, gF10, gF11, gF12, gF13, gF14, gF15, gF16, gF17, gF18, gF19, pF0, pF1, pF2, pF3, pF4, pF5, pF6, pF7, pF8, pF9, pF10, pF11, pF12, pF13, pF14, pF15, pF16, pF17, pF18, pF19, aI_mk, aL_mk, aA_mk, sI_mk, sL_mk, sA_mk, isO_mk, rl_some, rl_none, true_and, and_true, true_or, or_true, wr_1, if_true]
      exact KK
  · have KK := K 9 w m (by omega) rfl fr.rf D kM.rf
    rw [q127_1_c9]
    simp only [q127_125, q127_126, q127_129, gF0, gF1, gF2, gF3, gF4, gF5, gF6, gF7, gF8, gF9, gF10, gF11, gF12, gF13, gF14, gF15, gF16, gF17, gF18, gF19, pF0, pF1, pF2, pF3, pF4, pF5, pF6, pF7, pF8, pF9, pF10, pF11, pF12, pF13, pF14, pF15, pF16, pF17, pF18, pF19, aI_mk, aL_mk, aA_mk, sI_mk, sL_mk, sA_mk, isO_mk, rl_some, rl_none, true_and, and_true, true_or, or_true, wr_1, h0, oM, c125 D v]
    exact KK
  · rw [q127_1_c10]
    simp only [q127_130, q127_131, gF0, gF1, gF2, gF3, gF4, gF5, gF6, gF7, gF8, gF9, gF10, gF11, gF12, gF13, gF14, gF15, gF16, gF17, gF18, gF19, pF0, pF1, pF2, pF3, pF4, pF5, pF6, pF7, pF8, pF9, pF10, pF11, pF12, pF13, pF14, pF15, pF16, pF17, pF18, pF19, aI_mk, aL_mk, aA_mk, sI_mk, sL_mk, sA_mk, isO_mk, rl_some, rl_none, true_and, and_true, true_or, or_true, wr_1, h0, oM]
    refine c126 D v (fun w2 m2 e2 D2 k2 => ?_)
    have KK := K 10 w2 m2 (by omega) rfl e2 D2 k2
    simp only [q127_134, gF0, gF1, gF2, gF3, gF4, gF5, gF6, gF7, gF8, gF9, gF10, gF11, gF12, gF13, gF14, gF15, gF16, gF17, gF18, gF19, pF0, pF1, pF2, pF3, pF4, pF5, pF6, pF7, pF8, pF9, pF10, pF11, pF12, pF13, pF14, pF15, pF16, pF17, pF18, pF19, aI_mk, aL_mk, aA_mk, sI_mk, sL_mk, sA_mk, isO_mk, rl_some, rl_none, true_and, and_true, true_or, or_true, wr_1]
    exact KK
  · have KK := K 11 w m (by omega) rfl fr.rf D kM.rf
    rw [q127_1_c11]
    simp only [q127_135, q127_136, q127_139, gF0, gF1, gF2, gF3, gF4, gF5, gF6, gF7, gF8, gF9, gF10, gF11, gF12, gF13, gF14, gF15, gF16, gF17, gF18, gF19, pF0, pF1, pF2, pF3, pF4, pF5, pF6, pF7, pF8, pF9, pF10, pF11, pF12, pF13, pF14, pF15, pF16, pF17, pF18, pF19, aI_mk, aL_mk, aA_mk, sI_mk, sL_mk, sA_mk, isO_mk, rl_some, rl_none, true_and, and_true, true_or, or_true, wr_1, h0, oM]
    exact KK
  · have KK := K 12 w m (by omega) rfl fr.rf D kM.rf
    rw [q127_1_c12]
    simp only [q127_140, q127_141, q127_144, gF0, gF1, gF2, gF3, gF4, gF5, gF6, gF7, gF8, gF9, gF10, gF11, gF12, gF13, gF14, gF15, gF16, gF17, gF18, gF19, pF0, pF1, pF2, pF3, pF4, pF5, pF6, pF7, pF8, pF9, pF10, pF11, pF12, pF13, pF14, pF15, pF16, pF17, pF18, pF19, aI_mk, aL_mk, aA_mk, sI_mk, sL_mk, sA_mk, isO_mk, rl_some, rl_none, true_and, and_true, true_or, or_true, wr_1, h0, oM]
    exact KK
  · rw [q127_1_c13]
    simp only [q127_145, q127_146, gF0, gF1, gF2, gF3, gF4, gF5, gF6, gF7, gF8, gF9, gF10, gF11, gF12, gF13, gF14, gF15, gF16, gF17, gF18, gF19, pF0, pF1, pF2, pF3, pF4, pF5, pF6, pF7, pF8, pF9, pF10, pF11, pF12, pF13, pF14, pF15, pF16, pF17, pF18, pF19, aI_mk, aL_mk, aA_mk, sI_mk, sL_mk, sA_mk, isO_mk, rl_some, rl_none, true_and, and_true, true_or, or_true, wr_1, h0, oM]
    refine c124 D v hp hU hw (fun w2 m2 e2 D2 k2 => ?_)
    have KK := K 13 w2 m2 (by omega) rfl e2 D2 k2
    simp only [q127_149, gF0, gF1, gF2, gF3, gF4, gF5, gF6, gF7, gF8, gF9, gF10, gF11, gF12, gF13, gF14, gF15, gF16, gF17, gF18, gF19, pF0, pF1, pF2, pF3, pF4, pF5, pF6, pF7, pF8, pF9, pF10, pF11, pF12, pF13, pF14, pF15, pF16, pF17, pF18, pF19, aI_mk, aL_mk, aA_mk, sI_mk, sL_mk, sA_mk, isO_mk, rl_some, rl_none, true_and, and_true, true_or, or_true, wr_1]
    exact KK
end MRT
