/-! 0: WeighingDesign$Design.<init>()V -/
theorem q0_0 {x0 : Nat} {b : Nat} {w : xW} {Q : Option Value → xW → Prop} : Wp 0 b 0 [.ref x0] [] w Q ↔ Wp 0 b 1 [.ref x0] [.ref x0] w Q := Wp_go (i := .aload_n 0) (by decide +kernel) rfl
set_option maxRecDepth 20000 in
theorem q0_1 {x0 s0 : Nat} {b : Nat} {w : xW} {Q : Option Value → xW → Prop} : Wp 0 b 1 [.ref x0] [.ref s0] w Q ↔ Wp 0 b 4 [.ref x0] [] w Q := Wp_go (i := .invokespecial 3) (by decide +kernel) rfl
theorem q0_4 {x0 : Nat} {b : Nat} {w : xW} {Q : Option Value → xW → Prop} : Wp 0 b 4 [.ref x0] [] w Q ↔ Wp 0 b 5 [.ref x0] [.ref x0] w Q := Wp_go (i := .aload_n 0) (by decide +kernel) rfl
theorem q0_5 {x0 s0 : Nat} {b : Nat} {w : xW} {Q : Option Value → xW → Prop} : Wp 0 b 5 [.ref x0] [.ref s0] w Q ↔ Wp 0 b 7 [.ref x0] [.int 100, .ref s0] w Q := Wp_go (i := .bipush 100) (by decide +kernel) rfl
theorem q0_7 {x0 s0 : Nat} {s1 : Int32} {b : Nat} {w : xW} {Q : Option Value → xW → Prop} : Wp 0 b 7 [.ref x0] [.int s1, .ref s0] w Q ↔ x_pF (rd w s0) 0 2 (.int s1) (fun c => Wp 0 b 10 [.ref x0] [] (wr w s0 c) Q) := Wp_putf (idx := 9) (by decide +kernel) rfl rfl rfl
theorem q0_10 {x0 : Nat} {b : Nat} {w : xW} {Q : Option Value → xW → Prop} : Wp 0 b 10 [.ref x0] [] w Q ↔ Wp 0 b 11 [.ref x0] [.ref x0] w Q := Wp_go (i := .aload_n 0) (by decide +kernel) rfl
theorem q0_11 {x0 s0 : Nat} {b : Nat} {w : xW} {Q : Option Value → xW → Prop} : Wp 0 b 11 [.ref x0] [.ref s0] w Q ↔ Wp 0 b 13 [.ref x0] [.int 12, .ref s0] w Q := Wp_go (i := .bipush 12) (by decide +kernel) rfl
theorem q0_18 {x0 : Nat} {b : Nat} {w : xW} {Q : Option Value → xW → Prop} : Wp 0 b 18 [.ref x0] [] w Q ↔ Wp 0 b 19 [.ref x0] [.ref x0] w Q := Wp_go (i := .aload_n 0) (by decide +kernel) rfl
theorem q0_19 {x0 s0 : Nat} {b : Nat} {w : xW} {Q : Option Value → xW → Prop} : Wp 0 b 19 [.ref x0] [.ref s0] w Q ↔ Wp 0 b 21 [.ref x0] [.int 12, .ref s0] w Q := Wp_go (i := .bipush 12) (by decide +kernel) rfl
theorem q0_26 {x0 : Nat} {b : Nat} {w : xW} {Q : Option Value → xW → Prop} : Wp 0 b 26 [.ref x0] [] w Q ↔ Wp 0 b 27 [.ref x0] [.ref x0] w Q := Wp_go (i := .aload_n 0) (by decide +kernel) rfl
theorem q0_27 {x0 s0 : Nat} {b : Nat} {w : xW} {Q : Option Value → xW → Prop} : Wp 0 b 27 [.ref x0] [.ref s0] w Q ↔ Wp 0 b 29 [.ref x0] [.int 12, .ref s0] w Q := Wp_go (i := .bipush 12) (by decide +kernel) rfl
theorem q0_34 {x0 : Nat} {b : Nat} {w : xW} {Q : Option Value → xW → Prop} : Wp 0 b 34 [.ref x0] [] w Q ↔ Wp 0 b 35 [.ref x0] [.ref x0] w Q := Wp_go (i := .aload_n 0) (by decide +kernel) rfl
theorem q0_35 {x0 s0 : Nat} {b : Nat} {w : xW} {Q : Option Value → xW → Prop} : Wp 0 b 35 [.ref x0] [.ref s0] w Q ↔ Wp 0 b 37 [.ref x0] [.int 72, .ref s0] w Q := Wp_go (i := .bipush 72) (by decide +kernel) rfl
/-! 26: WeighingDesign$History.<init>()V -/
theorem q26_0 {x0 : Nat} {b : Nat} {w : xW} {Q : Option Value → xW → Prop} : Wp 26 b 0 [.ref x0, x_no] [] w Q ↔ Wp 26 b 1 [.ref x0, x_no] [.ref x0] w Q := Wp_go (i := .aload_n 0) (by decide +kernel) rfl
set_option maxRecDepth 20000 in
theorem q26_1 {x0 s0 : Nat} {b : Nat} {w : xW} {Q : Option Value → xW → Prop} : Wp 26 b 1 [.ref x0, x_no] [.ref s0] w Q ↔ Wp 26 b 4 [.ref x0, x_no] [] w Q := Wp_go (i := .invokespecial 3) (by decide +kernel) rfl
theorem q26_4 {x0 : Nat} {b : Nat} {w : xW} {Q : Option Value → xW → Prop} : Wp 26 b 4 [.ref x0, x_no] [] w Q ↔ Wp 26 b 5 [.ref x0, x_no] [.ref x0] w Q := Wp_go (i := .aload_n 0) (by decide +kernel) rfl
theorem q26_5 {x0 s0 : Nat} {b : Nat} {w : xW} {Q : Option Value → xW → Prop} : Wp 26 b 5 [.ref x0, x_no] [.ref s0] w Q ↔ Wp 26 b 6 [.ref x0, x_no] [.int 5, .ref s0] w Q := Wp_go (i := .iconst 5) (by decide +kernel) rfl
theorem q26_12 {x0 : Nat} {b : Nat} {w : xW} {Q : Option Value → xW → Prop} : Wp 26 b 12 [.ref x0, x_no] [] w Q ↔ Wp 26 b 13 [.ref x0, x_no] [.int 0] w Q := Wp_go (i := .iconst 0) (by decide +kernel) rfl
theorem q26_13 {x0 : Nat} {s0 : Int32} {b : Nat} {w : xW} {Q : Option Value → xW → Prop} : Wp 26 b 13 [.ref x0, x_no] [.int s0] w Q ↔ Wp 26 b 14 [.ref x0, .int s0] [] w Q := Wp_go (i := .istore_n 1) (by decide +kernel) rfl
theorem q26_14 {x0 : Nat} {x1 : Int32} {b : Nat} {w : xW} {Q : Option Value → xW → Prop} : Wp 26 b 14 [.ref x0, .int x1] [] w Q ↔ Wp 26 b 15 [.ref x0, .int x1] [.int x1] w Q := Wp_go (i := .iload_n 1) (by decide +kernel) rfl
theorem q26_15 {x0 : Nat} {x1 s0 : Int32} {b : Nat} {w : xW} {Q : Option Value → xW → Prop} : Wp 26 b 15 [.ref x0, .int x1] [.int s0] w Q ↔ Wp 26 b 16 [.ref x0, .int x1] [.int 5, .int s0] w Q := Wp_go (i := .iconst 5) (by decide +kernel) rfl
theorem q26_16 {x0 : Nat} {x1 s0 s1 : Int32} {b : Nat} {w : xW} {Q : Option Value → xW → Prop} : Wp 26 b 16 [.ref x0, .int x1] [.int s1, .int s0] w Q ↔ (if s1 ≤ s0 then Wp 26 b 38 [.ref x0, .int x1] [] w Q else Wp 26 b 19 [.ref x0, .int x1] [] w Q) := Wp_br (i := .if_icmp .ge 22) (by decide +kernel) rfl
theorem q26_19 {x0 : Nat} {x1 : Int32} {b : Nat} {w : xW} {Q : Option Value → xW → Prop} : Wp 26 b 19 [.ref x0, .int x1] [] w Q ↔ Wp 26 b 20 [.ref x0, .int x1] [.ref x0] w Q := Wp_go (i := .aload_n 0) (by decide +kernel) rfl
theorem q26_20 {x0 s0 : Nat} {x1 : Int32} {b : Nat} {w : xW} {Q : Option Value → xW → Prop} : Wp 26 b 20 [.ref x0, .int x1] [.ref s0] w Q ↔ x_gF (rd w s0) 1 0 (fun v => Wp 26 b 23 [.ref x0, .int x1] [v] w Q) := Wp_getf (idx := 11) (by decide +kernel) rfl
theorem q26_23 {x0 s0 : Nat} {x1 : Int32} {b : Nat} {w : xW} {Q : Option Value → xW → Prop} : Wp 26 b 23 [.ref x0, .int x1] [.ref s0] w Q ↔ Wp 26 b 24 [.ref x0, .int x1] [.int x1, .ref s0] w Q := Wp_go (i := .iload_n 1) (by decide +kernel) rfl
theorem q26_27 {x0 s0 s2 : Nat} {x1 s1 : Int32} {b : Nat} {w : xW} {Q : Option Value → xW → Prop} : Wp 26 b 27 [.ref x0, .int x1] [.ref s2, .int s1, .ref s0] w Q ↔ Wp 26 b 28 [.ref x0, .int x1] [.ref s2, .ref s2, .int s1, .ref s0] w Q := Wp_go (i := .dup) (by decide +kernel) rfl
theorem q26_31 {x0 s0 s2 : Nat} {x1 s1 : Int32} {b : Nat} {w : xW} {Q : Option Value → xW → Prop} : Wp 26 b 31 [.ref x0, .int x1] [.ref s2, .int s1, .ref s0] w Q ↔ x_sA (rd w s0) (rd w s2) s1 s2 (fun c => Wp 26 b 32 [.ref x0, .int x1] [] (wr w s0 c) Q) := Wp_aastore (by decide +kernel)
theorem q26_32 {x0 : Nat} {x1 : Int32} {b : Nat} {w : xW} {Q : Option Value → xW → Prop} : Wp 26 b 32 [.ref x0, .int x1] [] w Q ↔ Wp 26 b 35 [.ref x0, .int (x1 + 1)] [] w Q := Wp_go (i := .iinc 1 1) (by decide +kernel) rfl
theorem q26_35 {x0 : Nat} {x1 : Int32} {b : Nat} {w : xW} {Q : Option Value → xW → Prop} : Wp 26 b 35 [.ref x0, .int x1] [] w Q ↔ Wp 26 b 14 [.ref x0, .int x1] [] w Q := Wp_go (i := .goto (-21)) (by decide +kernel) rfl
/-! 30: WeighingDesign$Solver.<init>()V -/
theorem q30_0 {x0 : Nat} {b : Nat} {w : xW} {Q : Option Value → xW → Prop} : Wp 30 b 0 [.ref x0] [] w Q ↔ Wp 30 b 1 [.ref x0] [.ref x0] w Q := Wp_go (i := .aload_n 0) (by decide +kernel) rfl
set_option maxRecDepth 20000 in
theorem q30_1 {x0 s0 : Nat} {b : Nat} {w : xW} {Q : Option Value → xW → Prop} : Wp 30 b 1 [.ref x0] [.ref s0] w Q ↔ Wp 30 b 4 [.ref x0] [] w Q := Wp_go (i := .invokespecial 3) (by decide +kernel) rfl
theorem q30_4 {x0 : Nat} {b : Nat} {w : xW} {Q : Option Value → xW → Prop} : Wp 30 b 4 [.ref x0] [] w Q ↔ Wp 30 b 5 [.ref x0] [.ref x0] w Q := Wp_go (i := .aload_n 0) (by decide +kernel) rfl
theorem q30_5 {x0 s0 : Nat} {b : Nat} {w : xW} {Q : Option Value → xW → Prop} : Wp 30 b 5 [.ref x0] [.ref s0] w Q ↔ Wp 30 b 6 [.ref x0] [.int 5, .ref s0] w Q := Wp_go (i := .iconst 5) (by decide +kernel) rfl
theorem q30_6 {x0 s0 : Nat} {s1 : Int32} {b : Nat} {w : xW} {Q : Option Value → xW → Prop} : Wp 30 b 6 [.ref x0] [.int s1, .ref s0] w Q ↔ Wp 30 b 7 [.ref x0] [.int 5, .int s1, .ref s0] w Q := Wp_go (i := .iconst 5) (by decide +kernel) rfl
theorem q30_14 {x0 : Nat} {b : Nat} {w : xW} {Q : Option Value → xW → Prop} : Wp 30 b 14 [.ref x0] [] w Q ↔ Wp 30 b 15 [.ref x0] [.ref x0] w Q := Wp_go (i := .aload_n 0) (by decide +kernel) rfl
theorem q30_15 {x0 s0 : Nat} {b : Nat} {w : xW} {Q : Option Value → xW → Prop} : Wp 30 b 15 [.ref x0] [.ref s0] w Q ↔ Wp 30 b 16 [.ref x0] [.int 5, .ref s0] w Q := Wp_go (i := .iconst 5) (by decide +kernel) rfl
theorem q30_21 {x0 : Nat} {b : Nat} {w : xW} {Q : Option Value → xW → Prop} : Wp 30 b 21 [.ref x0] [] w Q ↔ Wp 30 b 22 [.ref x0] [.ref x0] w Q := Wp_go (i := .aload_n 0) (by decide +kernel) rfl
theorem q30_22 {x0 s0 : Nat} {b : Nat} {w : xW} {Q : Option Value → xW → Prop} : Wp 30 b 22 [.ref x0] [.ref s0] w Q ↔ Wp 30 b 24 [.ref x0] [.int 32, .ref s0] w Q := Wp_go (i := .bipush 32) (by decide +kernel) rfl
theorem q30_29 {x0 : Nat} {b : Nat} {w : xW} {Q : Option Value → xW → Prop} : Wp 30 b 29 [.ref x0] [] w Q ↔ Wp 30 b 30 [.ref x0] [.ref x0] w Q := Wp_go (i := .aload_n 0) (by decide +kernel) rfl
theorem q30_30 {x0 s0 : Nat} {b : Nat} {w : xW} {Q : Option Value → xW → Prop} : Wp 30 b 30 [.ref x0] [.ref s0] w Q ↔ Wp 30 b 31 [.ref x0] [.int 5, .ref s0] w Q := Wp_go (i := .iconst 5) (by decide +kernel) rfl
/-! 46: WeighingDesign$Text.<init>()V -/
theorem q46_0 {x0 : Nat} {b : Nat} {w : xW} {Q : Option Value → xW → Prop} : Wp 46 b 0 [.ref x0] [] w Q ↔ Wp 46 b 1 [.ref x0] [.ref x0] w Q := Wp_go (i := .aload_n 0) (by decide +kernel) rfl
set_option maxRecDepth 20000 in
theorem q46_1 {x0 s0 : Nat} {b : Nat} {w : xW} {Q : Option Value → xW → Prop} : Wp 46 b 1 [.ref x0] [.ref s0] w Q ↔ Wp 46 b 4 [.ref x0] [] w Q := Wp_go (i := .invokespecial 3) (by decide +kernel) rfl
theorem q46_4 {x0 : Nat} {b : Nat} {w : xW} {Q : Option Value → xW → Prop} : Wp 46 b 4 [.ref x0] [] w Q ↔ Wp 46 b 5 [.ref x0] [.ref x0] w Q := Wp_go (i := .aload_n 0) (by decide +kernel) rfl
theorem q46_5 {x0 s0 : Nat} {b : Nat} {w : xW} {Q : Option Value → xW → Prop} : Wp 46 b 5 [.ref x0] [.ref s0] w Q ↔ Wp 46 b 7 [.ref x0] [.int 80, .ref s0] w Q := Wp_go (i := .bipush 80) (by decide +kernel) rfl
/-! 54: WeighingDesign$Trial.<init>()V -/
theorem q54_0 {x0 : Nat} {b : Nat} {w : xW} {Q : Option Value → xW → Prop} : Wp 54 b 0 [.ref x0] [] w Q ↔ Wp 54 b 1 [.ref x0] [.ref x0] w Q := Wp_go (i := .aload_n 0) (by decide +kernel) rfl
set_option maxRecDepth 20000 in
theorem q54_1 {x0 s0 : Nat} {b : Nat} {w : xW} {Q : Option Value → xW → Prop} : Wp 54 b 1 [.ref x0] [.ref s0] w Q ↔ Wp 54 b 4 [.ref x0] [] w Q := Wp_go (i := .invokespecial 3) (by decide +kernel) rfl
theorem q54_4 {x0 : Nat} {b : Nat} {w : xW} {Q : Option Value → xW → Prop} : Wp 54 b 4 [.ref x0] [] w Q ↔ Wp 54 b 5 [.ref x0] [.ref x0] w Q := Wp_go (i := .aload_n 0) (by decide +kernel) rfl
theorem q54_8 {x0 s0 s1 : Nat} {b : Nat} {w : xW} {Q : Option Value → xW → Prop} : Wp 54 b 8 [.ref x0] [.ref s1, .ref s0] w Q ↔ Wp 54 b 9 [.ref x0] [.ref s1, .ref s1, .ref s0] w Q := Wp_go (i := .dup) (by decide +kernel) rfl
/-! 57: WeighingDesign.<init>()V -/
theorem q57_0 {x0 : Nat} {b : Nat} {w : xW} {Q : Option Value → xW → Prop} : Wp 57 b 0 [.ref x0] [] w Q ↔ Wp 57 b 1 [.ref x0] [.ref x0] w Q := Wp_go (i := .aload_n 0) (by decide +kernel) rfl
set_option maxRecDepth 20000 in
theorem q57_1 {x0 s0 : Nat} {b : Nat} {w : xW} {Q : Option Value → xW → Prop} : Wp 57 b 1 [.ref x0] [.ref s0] w Q ↔ Wp 57 b 4 [.ref x0] [] w Q := Wp_go (i := .invokespecial 1) (by decide +kernel) rfl
theorem q57_4 {x0 : Nat} {b : Nat} {w : xW} {Q : Option Value → xW → Prop} : Wp 57 b 4 [.ref x0] [] w Q ↔ Wp 57 b 5 [.ref x0] [.ref x0] w Q := Wp_go (i := .aload_n 0) (by decide +kernel) rfl
theorem q57_8 {x0 s0 s1 : Nat} {b : Nat} {w : xW} {Q : Option Value → xW → Prop} : Wp 57 b 8 [.ref x0] [.ref s1, .ref s0] w Q ↔ Wp 57 b 9 [.ref x0] [.ref s1, .ref s1, .ref s0] w Q := Wp_go (i := .dup) (by decide +kernel) rfl
theorem q57_15 {x0 : Nat} {b : Nat} {w : xW} {Q : Option Value → xW → Prop} : Wp 57 b 15 [.ref x0] [] w Q ↔ Wp 57 b 16 [.ref x0] [.ref x0] w Q := Wp_go (i := .aload_n 0) (by decide +kernel) rfl
theorem q57_19 {x0 s0 s1 : Nat} {b : Nat} {w : xW} {Q : Option Value → xW → Prop} : Wp 57 b 19 [.ref x0] [.ref s1, .ref s0] w Q ↔ Wp 57 b 20 [.ref x0] [.ref s1, .ref s1, .ref s0] w Q := Wp_go (i := .dup) (by decide +kernel) rfl
theorem q57_26 {x0 : Nat} {b : Nat} {w : xW} {Q : Option Value → xW → Prop} : Wp 57 b 26 [.ref x0] [] w Q ↔ Wp 57 b 27 [.ref x0] [.ref x0] w Q := Wp_go (i := .aload_n 0) (by decide +kernel) rfl
theorem q57_30 {x0 s0 s1 : Nat} {b : Nat} {w : xW} {Q : Option Value → xW → Prop} : Wp 57 b 30 [.ref x0] [.ref s1, .ref s0] w Q ↔ Wp 57 b 31 [.ref x0] [.ref s1, .ref s1, .ref s0] w Q := Wp_go (i := .dup) (by decide +kernel) rfl
theorem q57_37 {x0 : Nat} {b : Nat} {w : xW} {Q : Option Value → xW → Prop} : Wp 57 b 37 [.ref x0] [] w Q ↔ Wp 57 b 38 [.ref x0] [.ref x0] w Q := Wp_go (i := .aload_n 0) (by decide +kernel) rfl
theorem q57_41 {x0 s0 s1 : Nat} {b : Nat} {w : xW} {Q : Option Value → xW → Prop} : Wp 57 b 41 [.ref x0] [.ref s1, .ref s0] w Q ↔ Wp 57 b 42 [.ref x0] [.ref s1, .ref s1, .ref s0] w Q := Wp_go (i := .dup) (by decide +kernel) rfl
theorem q57_48 {x0 : Nat} {b : Nat} {w : xW} {Q : Option Value → xW → Prop} : Wp 57 b 48 [.ref x0] [] w Q ↔ Wp 57 b 49 [.ref x0] [.ref x0] w Q := Wp_go (i := .aload_n 0) (by decide +kernel) rfl
theorem q57_52 {x0 s0 s1 : Nat} {b : Nat} {w : xW} {Q : Option Value → xW → Prop} : Wp 57 b 52 [.ref x0] [.ref s1, .ref s0] w Q ↔ Wp 57 b 53 [.ref x0] [.ref s1, .ref s1, .ref s0] w Q := Wp_go (i := .dup) (by decide +kernel) rfl
