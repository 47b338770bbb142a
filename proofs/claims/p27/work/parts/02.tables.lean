/-! Methods by number: 0 .. 155, the last one the law. m_nm name, m_bc code, m_ml locals, m_rt what it returns, m_cl class, m_dp depth of calls, m_mc cells made, m_np parameters. -/
def x_cn (c : Nat) : String := (["WeighingDesign$Design", "WeighingDesign$History", "WeighingDesign$Solver", "WeighingDesign$Text", "WeighingDesign$Trial", "WeighingDesign", "java/lang/Integer", "WeighingDesignLaw"] : List String).getD c ""
def m_cls : List Nat := [0, 0, 0, 0, 0, 0, 0, 0, 5, 0, 0, 5, 0, 0, 0, 0, 0, 5, 0, 0, 0, 0, 0, 0, 0, 5, 1, 1, 1, 1, 2, 2, 2, 2, 2, 2, 2, 2, 5, 2, 2, 2, 2, 2, 2, 2, 3, 5, 5, 5, 5, 5, 5, 5, 4, 5, 5, 5, 5, 5, 5, 5, 5, 5, 5, 5, 5, 5, 5, 5, 5, 5, 5, 5, 5, 5, 5, 5, 5, 5, 5, 5, 5, 5, 5, 5, 5, 5, 5, 5, 5, 5, 7, 7, 7, 7, 5, 5, 5, 5, 5, 5, 5, 5, 5, 5, 5, 5, 5, 5, 5, 5, 5, 5, 5, 5, 5, 5, 5, 5, 5, 5, 5, 5, 5, 5, 5, 5, 5, 5, 5, 5, 5, 5, 5, 5, 5, 5, 5, 5, 5, 5, 5, 5, 5, 5, 5, 5, 5, 5, 5, 5, 5, 5, 6, 7]
def m_cl (y : Nat) : Nat := m_cls.getD y 99
def m_cn (y : Nat) : String := x_cn (m_cl y)
def m_nds : List (String × String) := [("<init>", "()V"), ("copyFrom", "(LWeighingDesign$Design;)V"), ("copyRow", "(LWeighingDesign$Design;II)V"), ("hasRow", "(I)Z"), ("hasReading", "(II)Z"), ("readingAt", "(II)I"), ("rowWith", "(II)I"), ("appendRow", "(II)I"), ("isMass", "(I)Z"), ("appendReading", "(II)I"), ("removeReading", "(II)V"), ("isMass", "(I)Z"), ("unknowns", "()I"), ("allTaken", "()I"), ("sumOf", "(I)I"), ("signOf", "(II)I"), ("factorOf", "(II)I"), ("isMass", "(I)Z"), ("chainedMasses", "()I"), ("oneLinkOn", "(I)I"), ("swappedWith", "(I)I"), ("swappedPairs", "()I"), ("meansNumerator", "(II)J"), ("meansDenominator", "(II)J"), ("isPanSuspect", "()Z"), ("isMass", "(I)Z"), ("<init>", "()V"), ("keep", "(LWeighingDesign$Design;)V"), ("dropOldest", "()V"), ("restore", "(LWeighingDesign$Design;)V"), ("<init>", "()V"), ("isWhole", "(LWeighingDesign$Design;)Z"), ("isNeeded", "(LWeighingDesign$Design;I)Z"), ("neededRows", "(LWeighingDesign$Design;)I"), ("solve", "(LWeighingDesign$Design;)Z"), ("solveWithout", "(LWeighingDesign$Design;II)Z"), ("residualOf", "(LWeighingDesign$Design;II)J"), ("balanceOf", "(LWeighingDesign$Design;I)J"), ("isMass", "(I)Z"), ("gather", "(LWeighingDesign$Design;)V"), ("weigh", "(LWeighingDesign$Design;III)V"), ("breaksWithout", "(LWeighingDesign$Design;I)Z"), ("isRegular", "()Z"), ("solveGathered", "()Z"), ("determinantWith", "(I)J"), ("minorOf", "(II)J"), ("<init>", "()V"), ("isMass", "(I)Z"), ("isMass", "(I)Z"), ("isMass", "(I)Z"), ("isMass", "(I)Z"), ("isMass", "(I)Z"), ("isMass", "(I)Z"), ("isMass", "(I)Z"), ("<init>", "()V"), ("isMass", "(I)Z"), ("isMass", "(I)Z"), ("<init>", "()V"), ("set", "(II)I"), ("addRow", "(II)I"), ("isMass", "(I)Z"), ("take", "(II)I"), ("dropReading", "(II)I"), ("row", "(II)I"), ("isMass", "(I)Z"), ("find", "(II)I"), ("count", "(I)I"), ("undo", "()I"), ("value", "(II)J"), ("pan", "(I)J"), ("residual", "(III)J"), ("balance", "(II)J"), ("mean", "(II)J"), ("isMass", "(I)Z"), ("without", "(IIII)J"), ("isMass", "(I)Z"), ("panBy", "(II)J"), ("isMass", "(I)Z"), ("isMass", "(I)Z"), ("isMass", "(I)Z"), ("isMass", "(I)Z"), ("isMass", "(I)Z"), ("isSetting", "(II)Z"), ("settingOf", "(I)I"), ("isAmount", "(I)Z"), ("isPan", "(I)Z"), ("isMass", "(I)Z"), ("isPart", "(I)Z"), ("foundOr", "(I)I"), ("oneIf", "(Z)I"), ("partOf", "(JJI)J"), ("commonDivisor", "(JJ)J"), ("cell", "([II)I"), ("holds", "(LWeighingDesign;)Z"), ("exact", "([II)Z"), ("deviation", "([III)I"), ("isMass", "(I)Z"), ("isMass", "(I)Z"), ("isMass", "(I)Z"), ("isMass", "(I)Z"), ("isMass", "(I)Z"), ("isMass", "(I)Z"), ("isMass", "(I)Z"), ("isMass", "(I)Z"), ("isMass", "(I)Z"), ("isMass", "(I)Z"), ("isMass", "(I)Z"), ("isMass", "(I)Z"), ("isMass", "(I)Z"), ("isMass", "(I)Z"), ("isMass", "(I)Z"), ("isMass", "(I)Z"), ("isMass", "(I)Z"), ("isMass", "(I)Z"), ("isMass", "(I)Z"), ("isMass", "(I)Z"), ("isMass", "(I)Z"), ("isMass", "(I)Z"), ("isMass", "(I)Z"), ("isMass", "(I)Z"), ("isMass", "(I)Z"), ("isMass", "(I)Z"), ("isMass", "(I)Z"), ("isMass", "(I)Z"), ("isMass", "(I)Z"), ("isMass", "(I)Z"), ("isMass", "(I)Z"), ("isMass", "(I)Z"), ("isMass", "(I)Z"), ("isMass", "(I)Z"), ("isMass", "(I)Z"), ("isMass", "(I)Z"), ("isMass", "(I)Z"), ("isMass", "(I)Z"), ("isMass", "(I)Z"), ("isMass", "(I)Z"), ("isMass", "(I)Z"), ("isMass", "(I)Z"), ("isMass", "(I)Z"), ("isMass", "(I)Z"), ("isMass", "(I)Z"), ("isMass", "(I)Z"), ("isMass", "(I)Z"), ("isMass", "(I)Z"), ("isMass", "(I)Z"), ("isMass", "(I)Z"), ("isMass", "(I)Z"), ("isMass", "(I)Z"), ("isMass", "(I)Z"), ("isMass", "(I)Z"), ("isMass", "(I)Z"), ("isMass", "(I)Z"), ("isMass", "(I)Z"), ("isMass", "(I)Z"), ("bitCount", "(I)I"), ("law", "([I)Z")]
def m_nd (y : Nat) : String × String := m_nds.getD y ("", "")
def m_nm (y : Nat) : MethodName := ⟨m_cn y, (m_nd y).1, (m_nd y).2⟩
def m_bcs : List ByteArray := [prog_2_method_1_code, prog_2_method_2_code, prog_2_method_3_code, prog_2_method_4_code, prog_2_method_5_code, prog_2_method_6_code, prog_2_method_7_code, prog_2_method_8_code, prog_1_method_30_code, prog_2_method_10_code, prog_2_method_11_code, prog_1_method_30_code, prog_2_method_13_code, prog_2_method_14_code, prog_2_method_15_code, prog_2_method_16_code, prog_2_method_17_code, prog_1_method_30_code, prog_2_method_19_code, prog_2_method_20_code, prog_2_method_21_code, prog_2_method_22_code, prog_2_method_23_code, prog_2_method_24_code, prog_2_method_25_code, prog_1_method_30_code, prog_3_method_1_code, prog_3_method_2_code, prog_3_method_3_code, prog_3_method_4_code, prog_4_method_1_code, prog_4_method_2_code, prog_4_method_3_code, prog_4_method_4_code, prog_4_method_5_code, prog_4_method_6_code, prog_4_method_7_code, prog_4_method_8_code, prog_1_method_30_code, prog_4_method_10_code, prog_4_method_11_code, prog_4_method_12_code, prog_4_method_13_code, prog_4_method_14_code, prog_4_method_15_code, prog_4_method_16_code, prog_5_method_1_code, prog_1_method_30_code, prog_1_method_30_code, prog_1_method_30_code, prog_1_method_30_code, prog_1_method_30_code, prog_1_method_30_code, prog_1_method_30_code, prog_6_method_1_code, prog_1_method_30_code, prog_1_method_30_code, prog_1_method_1_code, prog_1_method_2_code, prog_1_method_3_code, prog_1_method_30_code, prog_1_method_5_code, prog_1_method_6_code, prog_1_method_7_code, prog_1_method_30_code, prog_1_method_9_code, prog_1_method_10_code, prog_1_method_11_code, prog_1_method_12_code, prog_1_method_13_code, prog_1_method_14_code, prog_1_method_15_code, prog_1_method_16_code, prog_1_method_30_code, prog_1_method_18_code, prog_1_method_30_code, prog_1_method_20_code, prog_1_method_30_code, prog_1_method_30_code, prog_1_method_30_code, prog_1_method_30_code, prog_1_method_30_code, prog_1_method_26_code, prog_1_method_27_code, prog_1_method_28_code, prog_1_method_29_code, prog_1_method_30_code, prog_1_method_31_code, prog_1_method_32_code, prog_1_method_33_code, prog_1_method_34_code, prog_1_method_35_code, method_2_code, method_3_code, method_4_code, method_5_code, prog_1_method_30_code, prog_1_method_30_code, prog_1_method_30_code, prog_1_method_30_code, prog_1_method_30_code, prog_1_method_30_code, prog_1_method_30_code, prog_1_method_30_code, prog_1_method_30_code, prog_1_method_30_code, prog_1_method_30_code, prog_1_method_30_code, prog_1_method_30_code, prog_1_method_30_code, prog_1_method_30_code, prog_1_method_30_code, prog_1_method_30_code, prog_1_method_30_code, prog_1_method_30_code, prog_1_method_30_code, prog_1_method_30_code, prog_1_method_30_code, prog_1_method_30_code, prog_1_method_30_code, prog_1_method_30_code, prog_1_method_30_code, prog_1_method_30_code, prog_1_method_30_code, prog_1_method_30_code, prog_1_method_30_code, prog_1_method_30_code, prog_1_method_30_code, prog_1_method_30_code, prog_1_method_30_code, prog_1_method_30_code, prog_1_method_30_code, prog_1_method_30_code, prog_1_method_30_code, prog_1_method_30_code, prog_1_method_30_code, prog_1_method_30_code, prog_1_method_30_code, prog_1_method_30_code, prog_1_method_30_code, prog_1_method_30_code, prog_1_method_30_code, prog_1_method_30_code, prog_1_method_30_code, prog_1_method_30_code, prog_1_method_30_code, prog_1_method_30_code, prog_1_method_30_code, prog_1_method_30_code, prog_1_method_30_code, prog_1_method_30_code, prog_1_method_30_code, prog_1_method_30_code, prog_1_method_30_code, prog_9_method_49_code, code]
def m_bc (y : Nat) : ByteArray := m_bcs.getD y .empty
def m_mls : List Nat := [1, 3, 5, 2, 3, 3, 4, 4, 1, 4, 4, 1, 1, 3, 4, 3, 3, 1, 3, 5, 3, 3, 3, 3, 3, 1, 2, 2, 3, 2, 1, 2, 3, 4, 2, 4, 9, 8, 1, 4, 10, 6, 1, 2, 4, 10, 1, 1, 1, 1, 1, 1, 1, 1, 1, 1, 1, 1, 4, 3, 1, 3, 3, 3, 1, 3, 2, 1, 3, 2, 4, 3, 3, 1, 5, 1, 4, 1, 1, 1, 1, 1, 2, 2, 1, 1, 1, 1, 1, 1, 7, 11, 2, 7, 7, 3, 1, 1, 1, 1, 1, 1, 1, 1, 1, 1, 1, 1, 1, 1, 1, 1, 1, 1, 1, 1, 1, 1, 1, 1, 1, 1, 1, 1, 1, 1, 1, 1, 1, 1, 1, 1, 1, 1, 1, 1, 1, 1, 1, 1, 1, 1, 1, 1, 1, 1, 1, 1, 1, 1, 1, 1, 1, 1, 1, 14]
def m_ml (y : Nat) : Nat := m_mls.getD y 0
def m_rts : List (Option FieldType) := [none, none, none, some .boolean, some .boolean, some .int, some .int, some .int, some .boolean, some .int, none, some .boolean, some .int, some .int, some .int, some .int, some .int, some .boolean, some .int, some .int, some .int, some .int, some .long, some .long, some .boolean, some .boolean, none, none, none, none, none, some .boolean, some .boolean, some .int, some .boolean, some .boolean, some .long, some .long, some .boolean, none, none, some .boolean, some .boolean, some .boolean, some .long, some .long, none, some .boolean, some .boolean, some .boolean, some .boolean, some .boolean, some .boolean, some .boolean, none, some .boolean, some .boolean, none, some .int, some .int, some .boolean, some .int, some .int, some .int, some .boolean, some .int, some .int, some .int, some .long, some .long, some .long, some .long, some .long, some .boolean, some .long, some .boolean, some .long, some .boolean, some .boolean, some .boolean, some .boolean, some .boolean, some .boolean, some .int, some .boolean, some .boolean, some .boolean, some .boolean, some .int, some .int, some .long, some .long, some .int, some .boolean, some .boolean, some .int, some .boolean, some .boolean, some .boolean, some .boolean, some .boolean, some .boolean, some .boolean, some .boolean, some .boolean, some .boolean, some .boolean, some .boolean, some .boolean, some .boolean, some .boolean, some .boolean, some .boolean, some .boolean, some .boolean, some .boolean, some .boolean, some .boolean, some .boolean, some .boolean, some .boolean, some .boolean, some .boolean, some .boolean, some .boolean, some .boolean, some .boolean, some .boolean, some .boolean, some .boolean, some .boolean, some .boolean, some .boolean, some .boolean, some .boolean, some .boolean, some .boolean, some .boolean, some .boolean, some .boolean, some .boolean, some .boolean, some .boolean, some .boolean, some .boolean, some .boolean, some .boolean, some .boolean, some .boolean, some .boolean, some .boolean, some .boolean, some .boolean, some .boolean, some .int, some .boolean]
def m_rt (y : Nat) : Option FieldType := m_rts.getD y none
def m_dps : List Nat := [1, 1, 0, 0, 1, 0, 0, 0, 0, 0, 0, 0, 0, 0, 1, 0, 1, 0, 1, 0, 1, 2, 2, 0, 3, 0, 2, 2, 0, 2, 1, 4, 5, 5, 4, 4, 2, 3, 0, 3, 2, 4, 3, 3, 2, 1, 1, 0, 0, 0, 0, 0, 0, 0, 2, 0, 0, 3, 3, 3, 0, 3, 3, 6, 0, 1, 6, 3, 5, 5, 5, 5, 3, 0, 5, 0, 3, 0, 0, 0, 0, 0, 1, 0, 0, 0, 0, 0, 0, 0, 2, 1, 0, 7, 8, 1, 0, 0, 0, 0, 0, 0, 0, 0, 0, 0, 0, 0, 0, 0, 0, 0, 0, 0, 0, 0, 0, 0, 0, 0, 0, 0, 0, 0, 0, 0, 0, 0, 0, 0, 0, 0, 0, 0, 0, 0, 0, 0, 0, 0, 0, 0, 0, 0, 0, 0, 0, 0, 0, 0, 0, 0, 0, 0, 0, 9]
def m_dp (y : Nat) : Nat := m_dps.getD y 0
def m_mcs : List Nat := [4, 0, 0, 0, 0, 0, 0, 0, 0, 0, 0, 0, 0, 0, 0, 0, 0, 0, 0, 0, 0, 0, 0, 0, 0, 0, 26, 0, 0, 0, 9, 0, 0, 0, 0, 0, 0, 0, 0, 0, 0, 0, 0, 0, 0, 0, 1, 0, 0, 0, 0, 0, 0, 0, 5, 0, 0, 50, 0, 0, 0, 0, 0, 0, 0, 0, 0, 0, 0, 0, 0, 0, 0, 0, 0, 0, 0, 0, 0, 0, 0, 0, 0, 0, 0, 0, 0, 0, 0, 0, 0, 0, 0, 0, 51, 0, 0, 0, 0, 0, 0, 0, 0, 0, 0, 0, 0, 0, 0, 0, 0, 0, 0, 0, 0, 0, 0, 0, 0, 0, 0, 0, 0, 0, 0, 0, 0, 0, 0, 0, 0, 0, 0, 0, 0, 0, 0, 0, 0, 0, 0, 0, 0, 0, 0, 0, 0, 0, 0, 0, 0, 0, 0, 0, 0, 600]
def m_mc (y : Nat) : Nat := m_mcs.getD y 0
def m_nps : List Nat := [0, 1, 3, 1, 2, 2, 2, 2, 1, 2, 2, 1, 0, 0, 1, 2, 2, 1, 0, 1, 1, 0, 2, 2, 0, 1, 0, 1, 0, 1, 0, 1, 2, 1, 1, 3, 3, 2, 1, 1, 4, 2, 0, 0, 1, 2, 0, 1, 1, 1, 1, 1, 1, 1, 0, 1, 1, 0, 2, 2, 1, 2, 2, 2, 1, 2, 1, 0, 2, 1, 3, 2, 2, 1, 4, 1, 2, 1, 1, 1, 1, 1, 2, 1, 1, 1, 1, 1, 1, 1, 3, 2, 2, 1, 2, 3, 1, 1, 1, 1, 1, 1, 1, 1, 1, 1, 1, 1, 1, 1, 1, 1, 1, 1, 1, 1, 1, 1, 1, 1, 1, 1, 1, 1, 1, 1, 1, 1, 1, 1, 1, 1, 1, 1, 1, 1, 1, 1, 1, 1, 1, 1, 1, 1, 1, 1, 1, 1, 1, 1, 1, 1, 1, 1, 1, 1]
def m_np (y : Nat) : Nat := m_nps.getD y 0
def m_law : Nat := 155
/-- the methods that have the script: the law, cell, exact, deviation -/
def m_sc (y : Nat) : Bool := y == 155 || y == 92 || y == 94 || y == 95
def m_in (y : Nat) : Bool := (m_nd y).1 == "<init>"
/-- room of a method: frames, cells, slots, locals -/
def m_rm (y : Nat) : Room := if y = m_law then room_1 else { frames := m_dp y, cells := m_mc y, slots := 600 * m_mc y, locals := 36 * m_dp y }
/-- links: (class, pool index, kind, method); kind 0 virtual, 1 static, 2 constructor, 3 Object(), 4 Math.abs, 5 Math.max (longs), 6 static of a nest mate -/
def x_mls : List (Nat × Nat × Nat × Nat) := [(0, 3, 3, 0), (0, 37, 0, 2), (0, 41, 0, 3), (0, 45, 0, 6), (0, 55, 0, 5), (0, 58, 0, 15), (0, 61, 0, 19), (0, 65, 1, 154), (0, 70, 0, 20), (0, 73, 0, 14), (0, 76, 0, 22), (0, 80, 4, 0), (0, 86, 0, 23), (1, 3, 3, 0), (1, 17, 2, 0), (1, 22, 0, 28), (1, 25, 0, 1), (2, 3, 3, 0), (2, 26, 0, 39), (2, 30, 0, 42), (2, 34, 0, 31), (2, 38, 0, 41), (2, 48, 0, 43), (2, 51, 0, 5), (2, 55, 0, 40), (2, 59, 0, 15), (2, 72, 0, 16), (2, 79, 0, 36), (2, 91, 0, 12), (2, 94, 0, 14), (2, 98, 0, 44), (2, 102, 0, 45), (2, 106, 1, 154), (3, 3, 3, 0), (4, 3, 3, 0), (4, 11, 2, 0), (5, 1, 3, 0), (5, 9, 2, 0), (5, 18, 2, 26), (5, 25, 2, 46), (5, 32, 2, 54), (5, 39, 2, 30), (5, 44, 1, 82), (5, 49, 0, 83), (5, 53, 0, 27), (5, 67, 1, 85), (5, 71, 0, 6), (5, 80, 0, 7), (5, 83, 0, 3), (5, 90, 1, 84), (5, 97, 0, 9), (5, 100, 0, 4), (5, 103, 0, 10), (5, 113, 0, 20), (5, 116, 1, 88), (5, 119, 0, 32), (5, 123, 1, 89), (5, 130, 0, 13), (5, 134, 0, 31), (5, 138, 0, 12), (5, 141, 0, 24), (5, 145, 0, 21), (5, 148, 0, 18), (5, 157, 0, 33), (5, 161, 0, 29), (5, 164, 1, 86), (5, 167, 1, 87), (5, 172, 0, 34), (5, 177, 1, 90), (5, 189, 0, 36), (5, 193, 0, 37), (5, 199, 0, 14), (5, 205, 0, 35), (5, 212, 0, 22), (5, 218, 0, 23), (5, 248, 1, 91), (5, 252, 4, 0), (5, 258, 5, 0), (7, 9, 0, 66), (7, 15, 0, 63), (7, 19, 0, 65), (7, 22, 0, 76), (7, 26, 0, 68), (7, 31, 0, 71), (7, 34, 2, 57), (7, 35, 1, 92), (7, 41, 0, 58), (7, 44, 0, 59), (7, 47, 1, 95), (7, 51, 0, 61), (7, 54, 1, 93), (7, 58, 0, 69), (7, 62, 0, 70), (7, 66, 0, 74), (7, 70, 1, 94), (7, 75, 0, 62), (7, 79, 0, 72), (7, 82, 0, 67)]
def x_fls : List (Nat × Nat × Nat × Nat) := [(0, 9, 0, 2), (0, 15, 0, 4), (0, 19, 0, 5), (0, 22, 0, 6), (0, 25, 0, 7), (0, 28, 0, 0), (0, 31, 0, 1), (0, 34, 0, 3), (1, 11, 1, 0), (1, 18, 1, 1), (2, 11, 2, 0), (2, 16, 2, 1), (2, 20, 2, 2), (2, 23, 2, 3), (2, 42, 0, 3), (2, 62, 0, 0), (2, 65, 2, 5), (2, 69, 2, 4), (2, 75, 0, 6), (3, 9, 3, 0), (4, 12, 4, 0), (5, 10, 5, 0), (5, 19, 5, 1), (5, 26, 5, 2), (5, 33, 5, 3), (5, 40, 5, 4), (5, 57, 0, 0), (5, 61, 0, 1), (5, 64, 0, 2), (5, 76, 0, 3), (5, 93, 0, 6), (5, 107, 0, 4), (5, 110, 0, 5), (5, 151, 1, 1), (5, 154, 3, 1), (5, 181, 2, 3), (5, 185, 2, 5)]
def x_find (l : List (Nat × Nat × Nat × Nat)) (c i : Nat) : Option (Nat × Nat) := match l with
  | [] => none
  | (c1, i1, a, b) :: r => if c1 = c ∧ i1 = i then some (a, b) else x_find r c i
def x_ml (c i : Nat) : Option (Nat × Nat) := x_find x_mls c i
def x_fl (c i : Nat) : Option (Nat × Nat) := x_find x_fls c i
/-- class links: (class, pool index, class, 0) -/
def x_nls : List (Nat × Nat × Nat × Nat) := [(7, 10, 5, 0), (5, 7, 0, 0), (5, 16, 1, 0), (1, 9, 0, 0), (5, 23, 3, 0), (5, 30, 4, 0), (4, 9, 0, 0), (5, 37, 2, 0)]
def x_nl (c i : Nat) : Option (Nat × Nat) := x_find x_nls c i
def x_mna (c i : Nat) : Bool := c == 2 && i == 9
def x_css : List (Nat × Nat × Value) := [(5, 247, .int (-100000)), (5, 246, .int (100000)), (5, 48, .int (-2000000001)), (5, 75, .int (-2000000002)), (5, 79, .int (-2000000003)), (5, 235, .int (-2000000004)), (6, 265, .int (1431655765)), (6, 266, .int (858993459)), (6, 267, .int (252645135)), (5, 170, .long (-2000000001)), (5, 197, .long (-2000000004)), (7, 7, .int (15485959)), (7, 8, .int (2147483647)), (5, 216, .long (2)), (5, 175, .long (-2000000002)), (7, 29, .long (-2000000002)), (7, 74, .int (-2000000001)), (7, 78, .int (-2000000003))]
def x_cfind (l : List (Nat × Nat × Value)) (c i : Nat) : Option Value := match l with
  | [] => none
  | (c1, i1, v) :: r => if c1 = c ∧ i1 = i then some v else x_cfind r c i
def x_cs (c i : Nat) : Option Value := x_cfind x_css c i
/-- of a class: the kinds of its fields (0 int, 1 long, 2 reference), final or not -/
def x_fk (c : Nat) : List (Nat × Bool) := ([[(0, false), (0, false), (0, false), (0, false), (2, true), (2, true), (2, true), (2, true)], [(2, true), (0, false)], [(2, true), (2, true), (2, true), (2, true), (0, false), (1, false)], [(2, true), (0, false), (0, false), (0, false), (0, false), (0, false)], [(2, true), (0, false), (0, false), (0, false)], [(2, true), (2, true), (2, true), (2, true), (2, true)]] : List (List (Nat × Bool))).getD c []
def x_df (c : Nat) : List Value := (x_fk c).map (fun q => match q.1 with | 0 => .int 0 | 1 => .long 0 | _ => .null)
def x_fn (c : Nat) : Nat := (x_fk c).length
/-! the words of the tables that the links stand on -/
theorem x_w {l : List Cond} {i : Nat} {c : Cond} (h : l[i]? = some c) : c ∈ l := List.mem_of_getElem? h
set_option maxRecDepth 100000 in
theorem m_code_0 : lw_tbl[32]? = some (Cond.code (m_nm 0) (m_bc 0) (m_ml 0) (m_rt 0)) := rfl
set_option maxRecDepth 100000 in
theorem m_code_1 : lw_tbl[201]? = some (Cond.code (m_nm 1) (m_bc 1) (m_ml 1) (m_rt 1)) := rfl
set_option maxRecDepth 100000 in
theorem m_code_2 : lw_tbl[205]? = some (Cond.code (m_nm 2) (m_bc 2) (m_ml 2) (m_rt 2)) := rfl
set_option maxRecDepth 100000 in
theorem m_code_3 : lw_tbl[230]? = some (Cond.code (m_nm 3) (m_bc 3) (m_ml 3) (m_rt 3)) := rfl
set_option maxRecDepth 100000 in
theorem m_code_4 : lw_tbl[242]? = some (Cond.code (m_nm 4) (m_bc 4) (m_ml 4) (m_rt 4)) := rfl
set_option maxRecDepth 100000 in
theorem m_code_5 : lw_tbl[284]? = some (Cond.code (m_nm 5) (m_bc 5) (m_ml 5) (m_rt 5)) := rfl
set_option maxRecDepth 100000 in
theorem m_code_6 : lw_tbl[216]? = some (Cond.code (m_nm 6) (m_bc 6) (m_ml 6) (m_rt 6)) := rfl
set_option maxRecDepth 100000 in
theorem m_code_7 : lw_tbl[222]? = some (Cond.code (m_nm 7) (m_bc 7) (m_ml 7) (m_rt 7)) := rfl
set_option maxRecDepth 100000 in
theorem m_code_8 : lw_tbl[420]? = some (Cond.code (m_nm 8) (m_bc 8) (m_ml 8) (m_rt 8)) := rfl
set_option maxRecDepth 100000 in
theorem m_code_9 : lw_tbl[234]? = some (Cond.code (m_nm 9) (m_bc 9) (m_ml 9) (m_rt 9)) := rfl
set_option maxRecDepth 100000 in
theorem m_code_10 : lw_tbl[247]? = some (Cond.code (m_nm 10) (m_bc 10) (m_ml 10) (m_rt 10)) := rfl
set_option maxRecDepth 100000 in
theorem m_code_11 : lw_tbl[420]? = some (Cond.code (m_nm 11) (m_bc 11) (m_ml 11) (m_rt 11)) := rfl
set_option maxRecDepth 100000 in
theorem m_code_12 : lw_tbl[276]? = some (Cond.code (m_nm 12) (m_bc 12) (m_ml 12) (m_rt 12)) := rfl
set_option maxRecDepth 100000 in
theorem m_code_13 : lw_tbl[330]? = some (Cond.code (m_nm 13) (m_bc 13) (m_ml 13) (m_rt 13)) := rfl
set_option maxRecDepth 100000 in
theorem m_code_14 : lw_tbl[280]? = some (Cond.code (m_nm 14) (m_bc 14) (m_ml 14) (m_rt 14)) := rfl
set_option maxRecDepth 100000 in
theorem m_code_15 : lw_tbl[292]? = some (Cond.code (m_nm 15) (m_bc 15) (m_ml 15) (m_rt 15)) := rfl
set_option maxRecDepth 100000 in
theorem m_code_16 : lw_tbl[296]? = some (Cond.code (m_nm 16) (m_bc 16) (m_ml 16) (m_rt 16)) := rfl
set_option maxRecDepth 100000 in
theorem m_code_17 : lw_tbl[420]? = some (Cond.code (m_nm 17) (m_bc 17) (m_ml 17) (m_rt 17)) := rfl
set_option maxRecDepth 100000 in
theorem m_code_18 : lw_tbl[357]? = some (Cond.code (m_nm 18) (m_bc 18) (m_ml 18) (m_rt 18)) := rfl
set_option maxRecDepth 100000 in
theorem m_code_19 : lw_tbl[361]? = some (Cond.code (m_nm 19) (m_bc 19) (m_ml 19) (m_rt 19)) := rfl
set_option maxRecDepth 100000 in
theorem m_code_20 : lw_tbl[255]? = some (Cond.code (m_nm 20) (m_bc 20) (m_ml 20) (m_rt 20)) := rfl
set_option maxRecDepth 100000 in
theorem m_code_21 : lw_tbl[353]? = some (Cond.code (m_nm 21) (m_bc 21) (m_ml 21) (m_rt 21)) := rfl
set_option maxRecDepth 100000 in
theorem m_code_22 : lw_tbl[341]? = some (Cond.code (m_nm 22) (m_bc 22) (m_ml 22) (m_rt 22)) := rfl
set_option maxRecDepth 100000 in
theorem m_code_23 : lw_tbl[349]? = some (Cond.code (m_nm 23) (m_bc 23) (m_ml 23) (m_rt 23)) := rfl
set_option maxRecDepth 100000 in
theorem m_code_24 : lw_tbl[336]? = some (Cond.code (m_nm 24) (m_bc 24) (m_ml 24) (m_rt 24)) := rfl
set_option maxRecDepth 100000 in
theorem m_code_25 : lw_tbl[420]? = some (Cond.code (m_nm 25) (m_bc 25) (m_ml 25) (m_rt 25)) := rfl
set_option maxRecDepth 100000 in
theorem m_code_26 : lw_tbl[74]? = some (Cond.code (m_nm 26) (m_bc 26) (m_ml 26) (m_rt 26)) := rfl
set_option maxRecDepth 100000 in
theorem m_code_27 : lw_tbl[193]? = some (Cond.code (m_nm 27) (m_bc 27) (m_ml 27) (m_rt 27)) := rfl
set_option maxRecDepth 100000 in
theorem m_code_28 : lw_tbl[197]? = some (Cond.code (m_nm 28) (m_bc 28) (m_ml 28) (m_rt 28)) := rfl
set_option maxRecDepth 100000 in
theorem m_code_29 : lw_tbl[374]? = some (Cond.code (m_nm 29) (m_bc 29) (m_ml 29) (m_rt 29)) := rfl
set_option maxRecDepth 100000 in
theorem m_code_30 : lw_tbl[131]? = some (Cond.code (m_nm 30) (m_bc 30) (m_ml 30) (m_rt 30)) := rfl
set_option maxRecDepth 100000 in
theorem m_code_31 : lw_tbl[268]? = some (Cond.code (m_nm 31) (m_bc 31) (m_ml 31) (m_rt 31)) := rfl
set_option maxRecDepth 100000 in
theorem m_code_32 : lw_tbl[264]? = some (Cond.code (m_nm 32) (m_bc 32) (m_ml 32) (m_rt 32)) := rfl
set_option maxRecDepth 100000 in
theorem m_code_33 : lw_tbl[366]? = some (Cond.code (m_nm 33) (m_bc 33) (m_ml 33) (m_rt 33)) := rfl
set_option maxRecDepth 100000 in
theorem m_code_34 : lw_tbl[424]? = some (Cond.code (m_nm 34) (m_bc 34) (m_ml 34) (m_rt 34)) := rfl
set_option maxRecDepth 100000 in
theorem m_code_35 : lw_tbl[466]? = some (Cond.code (m_nm 35) (m_bc 35) (m_ml 35) (m_rt 35)) := rfl
set_option maxRecDepth 100000 in
theorem m_code_36 : lw_tbl[442]? = some (Cond.code (m_nm 36) (m_bc 36) (m_ml 36) (m_rt 36)) := rfl
set_option maxRecDepth 100000 in
theorem m_code_37 : lw_tbl[438]? = some (Cond.code (m_nm 37) (m_bc 37) (m_ml 37) (m_rt 37)) := rfl
set_option maxRecDepth 100000 in
theorem m_code_38 : lw_tbl[420]? = some (Cond.code (m_nm 38) (m_bc 38) (m_ml 38) (m_rt 38)) := rfl
set_option maxRecDepth 100000 in
theorem m_code_39 : lw_tbl[272]? = some (Cond.code (m_nm 39) (m_bc 39) (m_ml 39) (m_rt 39)) := rfl
set_option maxRecDepth 100000 in
theorem m_code_40 : lw_tbl[288]? = some (Cond.code (m_nm 40) (m_bc 40) (m_ml 40) (m_rt 40)) := rfl
set_option maxRecDepth 100000 in
theorem m_code_41 : lw_tbl[319]? = some (Cond.code (m_nm 41) (m_bc 41) (m_ml 41) (m_rt 41)) := rfl
set_option maxRecDepth 100000 in
theorem m_code_42 : lw_tbl[301]? = some (Cond.code (m_nm 42) (m_bc 42) (m_ml 42) (m_rt 42)) := rfl
set_option maxRecDepth 100000 in
theorem m_code_43 : lw_tbl[428]? = some (Cond.code (m_nm 43) (m_bc 43) (m_ml 43) (m_rt 43)) := rfl
set_option maxRecDepth 100000 in
theorem m_code_44 : lw_tbl[305]? = some (Cond.code (m_nm 44) (m_bc 44) (m_ml 44) (m_rt 44)) := rfl
set_option maxRecDepth 100000 in
theorem m_code_45 : lw_tbl[309]? = some (Cond.code (m_nm 45) (m_bc 45) (m_ml 45) (m_rt 45)) := rfl
set_option maxRecDepth 100000 in
theorem m_code_46 : lw_tbl[91]? = some (Cond.code (m_nm 46) (m_bc 46) (m_ml 46) (m_rt 46)) := rfl
set_option maxRecDepth 100000 in
theorem m_code_47 : lw_tbl[420]? = some (Cond.code (m_nm 47) (m_bc 47) (m_ml 47) (m_rt 47)) := rfl
set_option maxRecDepth 100000 in
theorem m_code_48 : lw_tbl[420]? = some (Cond.code (m_nm 48) (m_bc 48) (m_ml 48) (m_rt 48)) := rfl
set_option maxRecDepth 100000 in
theorem m_code_49 : lw_tbl[420]? = some (Cond.code (m_nm 49) (m_bc 49) (m_ml 49) (m_rt 49)) := rfl
set_option maxRecDepth 100000 in
theorem m_code_50 : lw_tbl[420]? = some (Cond.code (m_nm 50) (m_bc 50) (m_ml 50) (m_rt 50)) := rfl
set_option maxRecDepth 100000 in
theorem m_code_51 : lw_tbl[420]? = some (Cond.code (m_nm 51) (m_bc 51) (m_ml 51) (m_rt 51)) := rfl
set_option maxRecDepth 100000 in
theorem m_code_52 : lw_tbl[420]? = some (Cond.code (m_nm 52) (m_bc 52) (m_ml 52) (m_rt 52)) := rfl
set_option maxRecDepth 100000 in
theorem m_code_53 : lw_tbl[420]? = some (Cond.code (m_nm 53) (m_bc 53) (m_ml 53) (m_rt 53)) := rfl
set_option maxRecDepth 100000 in
theorem m_code_54 : lw_tbl[113]? = some (Cond.code (m_nm 54) (m_bc 54) (m_ml 54) (m_rt 54)) := rfl
set_option maxRecDepth 100000 in
theorem m_code_55 : lw_tbl[420]? = some (Cond.code (m_nm 55) (m_bc 55) (m_ml 55) (m_rt 55)) := rfl
set_option maxRecDepth 100000 in
theorem m_code_56 : lw_tbl[420]? = some (Cond.code (m_nm 56) (m_bc 56) (m_ml 56) (m_rt 56)) := rfl
set_option maxRecDepth 100000 in
theorem m_code_57 : lw_tbl[24]? = some (Cond.code (m_nm 57) (m_bc 57) (m_ml 57) (m_rt 57)) := rfl
set_option maxRecDepth 100000 in
theorem m_code_58 : lw_tbl[176]? = some (Cond.code (m_nm 58) (m_bc 58) (m_ml 58) (m_rt 58)) := rfl
set_option maxRecDepth 100000 in
theorem m_code_59 : lw_tbl[209]? = some (Cond.code (m_nm 59) (m_bc 59) (m_ml 59) (m_rt 59)) := rfl
set_option maxRecDepth 100000 in
theorem m_code_60 : lw_tbl[420]? = some (Cond.code (m_nm 60) (m_bc 60) (m_ml 60) (m_rt 60)) := rfl
set_option maxRecDepth 100000 in
theorem m_code_61 : lw_tbl[226]? = some (Cond.code (m_nm 61) (m_bc 61) (m_ml 61) (m_rt 61)) := rfl
set_option maxRecDepth 100000 in
theorem m_code_62 : lw_tbl[238]? = some (Cond.code (m_nm 62) (m_bc 62) (m_ml 62) (m_rt 62)) := rfl
set_option maxRecDepth 100000 in
theorem m_code_63 : lw_tbl[251]? = some (Cond.code (m_nm 63) (m_bc 63) (m_ml 63) (m_rt 63)) := rfl
set_option maxRecDepth 100000 in
theorem m_code_64 : lw_tbl[420]? = some (Cond.code (m_nm 64) (m_bc 64) (m_ml 64) (m_rt 64)) := rfl
set_option maxRecDepth 100000 in
theorem m_code_65 : lw_tbl[406]? = some (Cond.code (m_nm 65) (m_bc 65) (m_ml 65) (m_rt 65)) := rfl
set_option maxRecDepth 100000 in
theorem m_code_66 : lw_tbl[326]? = some (Cond.code (m_nm 66) (m_bc 66) (m_ml 66) (m_rt 66)) := rfl
set_option maxRecDepth 100000 in
theorem m_code_67 : lw_tbl[370]? = some (Cond.code (m_nm 67) (m_bc 67) (m_ml 67) (m_rt 67)) := rfl
set_option maxRecDepth 100000 in
theorem m_code_68 : lw_tbl[417]? = some (Cond.code (m_nm 68) (m_bc 68) (m_ml 68) (m_rt 68)) := rfl
set_option maxRecDepth 100000 in
theorem m_code_69 : lw_tbl[453]? = some (Cond.code (m_nm 69) (m_bc 69) (m_ml 69) (m_rt 69)) := rfl
set_option maxRecDepth 100000 in
theorem m_code_70 : lw_tbl[457]? = some (Cond.code (m_nm 70) (m_bc 70) (m_ml 70) (m_rt 70)) := rfl
set_option maxRecDepth 100000 in
theorem m_code_71 : lw_tbl[434]? = some (Cond.code (m_nm 71) (m_bc 71) (m_ml 71) (m_rt 71)) := rfl
set_option maxRecDepth 100000 in
theorem m_code_72 : lw_tbl[378]? = some (Cond.code (m_nm 72) (m_bc 72) (m_ml 72) (m_rt 72)) := rfl
set_option maxRecDepth 100000 in
theorem m_code_73 : lw_tbl[420]? = some (Cond.code (m_nm 73) (m_bc 73) (m_ml 73) (m_rt 73)) := rfl
set_option maxRecDepth 100000 in
theorem m_code_74 : lw_tbl[462]? = some (Cond.code (m_nm 74) (m_bc 74) (m_ml 74) (m_rt 74)) := rfl
set_option maxRecDepth 100000 in
theorem m_code_75 : lw_tbl[420]? = some (Cond.code (m_nm 75) (m_bc 75) (m_ml 75) (m_rt 75)) := rfl
set_option maxRecDepth 100000 in
theorem m_code_76 : lw_tbl[410]? = some (Cond.code (m_nm 76) (m_bc 76) (m_ml 76) (m_rt 76)) := rfl
set_option maxRecDepth 100000 in
theorem m_code_77 : lw_tbl[420]? = some (Cond.code (m_nm 77) (m_bc 77) (m_ml 77) (m_rt 77)) := rfl
set_option maxRecDepth 100000 in
theorem m_code_78 : lw_tbl[420]? = some (Cond.code (m_nm 78) (m_bc 78) (m_ml 78) (m_rt 78)) := rfl
set_option maxRecDepth 100000 in
theorem m_code_79 : lw_tbl[420]? = some (Cond.code (m_nm 79) (m_bc 79) (m_ml 79) (m_rt 79)) := rfl
set_option maxRecDepth 100000 in
theorem m_code_80 : lw_tbl[420]? = some (Cond.code (m_nm 80) (m_bc 80) (m_ml 80) (m_rt 80)) := rfl
set_option maxRecDepth 100000 in
theorem m_code_81 : lw_tbl[420]? = some (Cond.code (m_nm 81) (m_bc 81) (m_ml 81) (m_rt 81)) := rfl
set_option maxRecDepth 100000 in
theorem m_code_82 : lw_tbl[179]? = some (Cond.code (m_nm 82) (m_bc 82) (m_ml 82) (m_rt 82)) := rfl
set_option maxRecDepth 100000 in
theorem m_code_83 : lw_tbl[189]? = some (Cond.code (m_nm 83) (m_bc 83) (m_ml 83) (m_rt 83)) := rfl
set_option maxRecDepth 100000 in
theorem m_code_84 : lw_tbl[182]? = some (Cond.code (m_nm 84) (m_bc 84) (m_ml 84) (m_rt 84)) := rfl
set_option maxRecDepth 100000 in
theorem m_code_85 : lw_tbl[212]? = some (Cond.code (m_nm 85) (m_bc 85) (m_ml 85) (m_rt 85)) := rfl
set_option maxRecDepth 100000 in
theorem m_code_86 : lw_tbl[420]? = some (Cond.code (m_nm 86) (m_bc 86) (m_ml 86) (m_rt 86)) := rfl
set_option maxRecDepth 100000 in
theorem m_code_87 : lw_tbl[381]? = some (Cond.code (m_nm 87) (m_bc 87) (m_ml 87) (m_rt 87)) := rfl
set_option maxRecDepth 100000 in
theorem m_code_88 : lw_tbl[259]? = some (Cond.code (m_nm 88) (m_bc 88) (m_ml 88) (m_rt 88)) := rfl
set_option maxRecDepth 100000 in
theorem m_code_89 : lw_tbl[322]? = some (Cond.code (m_nm 89) (m_bc 89) (m_ml 89) (m_rt 89)) := rfl
set_option maxRecDepth 100000 in
theorem m_code_90 : lw_tbl[387]? = some (Cond.code (m_nm 90) (m_bc 90) (m_ml 90) (m_rt 90)) := rfl
set_option maxRecDepth 100000 in
theorem m_code_91 : lw_tbl[390]? = some (Cond.code (m_nm 91) (m_bc 91) (m_ml 91) (m_rt 91)) := rfl
set_option maxRecDepth 100000 in
theorem m_code_92 : lw_tbl[397]? = some (Cond.code (m_nm 92) (m_bc 92) (m_ml 92) (m_rt 92)) := rfl
set_option maxRecDepth 100000 in
theorem m_code_93 : lw_tbl[402]? = some (Cond.code (m_nm 93) (m_bc 93) (m_ml 93) (m_rt 93)) := rfl
set_option maxRecDepth 100000 in
theorem m_code_94 : lw_tbl[446]? = some (Cond.code (m_nm 94) (m_bc 94) (m_ml 94) (m_rt 94)) := rfl
set_option maxRecDepth 100000 in
theorem m_code_95 : lw_tbl[449]? = some (Cond.code (m_nm 95) (m_bc 95) (m_ml 95) (m_rt 95)) := rfl
set_option maxRecDepth 100000 in
theorem m_code_96 : lw_tbl[420]? = some (Cond.code (m_nm 96) (m_bc 96) (m_ml 96) (m_rt 96)) := rfl
set_option maxRecDepth 100000 in
theorem m_code_97 : lw_tbl[420]? = some (Cond.code (m_nm 97) (m_bc 97) (m_ml 97) (m_rt 97)) := rfl
set_option maxRecDepth 100000 in
theorem m_code_98 : lw_tbl[420]? = some (Cond.code (m_nm 98) (m_bc 98) (m_ml 98) (m_rt 98)) := rfl
set_option maxRecDepth 100000 in
theorem m_code_99 : lw_tbl[420]? = some (Cond.code (m_nm 99) (m_bc 99) (m_ml 99) (m_rt 99)) := rfl
set_option maxRecDepth 100000 in
theorem m_code_100 : lw_tbl[420]? = some (Cond.code (m_nm 100) (m_bc 100) (m_ml 100) (m_rt 100)) := rfl
set_option maxRecDepth 100000 in
theorem m_code_101 : lw_tbl[420]? = some (Cond.code (m_nm 101) (m_bc 101) (m_ml 101) (m_rt 101)) := rfl
set_option maxRecDepth 100000 in
theorem m_code_102 : lw_tbl[420]? = some (Cond.code (m_nm 102) (m_bc 102) (m_ml 102) (m_rt 102)) := rfl
set_option maxRecDepth 100000 in
theorem m_code_103 : lw_tbl[420]? = some (Cond.code (m_nm 103) (m_bc 103) (m_ml 103) (m_rt 103)) := rfl
set_option maxRecDepth 100000 in
theorem m_code_104 : lw_tbl[420]? = some (Cond.code (m_nm 104) (m_bc 104) (m_ml 104) (m_rt 104)) := rfl
set_option maxRecDepth 100000 in
theorem m_code_105 : lw_tbl[420]? = some (Cond.code (m_nm 105) (m_bc 105) (m_ml 105) (m_rt 105)) := rfl
set_option maxRecDepth 100000 in
theorem m_code_106 : lw_tbl[420]? = some (Cond.code (m_nm 106) (m_bc 106) (m_ml 106) (m_rt 106)) := rfl
set_option maxRecDepth 100000 in
theorem m_code_107 : lw_tbl[420]? = some (Cond.code (m_nm 107) (m_bc 107) (m_ml 107) (m_rt 107)) := rfl
set_option maxRecDepth 100000 in
theorem m_code_108 : lw_tbl[420]? = some (Cond.code (m_nm 108) (m_bc 108) (m_ml 108) (m_rt 108)) := rfl
set_option maxRecDepth 100000 in
theorem m_code_109 : lw_tbl[420]? = some (Cond.code (m_nm 109) (m_bc 109) (m_ml 109) (m_rt 109)) := rfl
set_option maxRecDepth 100000 in
theorem m_code_110 : lw_tbl[420]? = some (Cond.code (m_nm 110) (m_bc 110) (m_ml 110) (m_rt 110)) := rfl
set_option maxRecDepth 100000 in
theorem m_code_111 : lw_tbl[420]? = some (Cond.code (m_nm 111) (m_bc 111) (m_ml 111) (m_rt 111)) := rfl
set_option maxRecDepth 100000 in
theorem m_code_112 : lw_tbl[420]? = some (Cond.code (m_nm 112) (m_bc 112) (m_ml 112) (m_rt 112)) := rfl
set_option maxRecDepth 100000 in
theorem m_code_113 : lw_tbl[420]? = some (Cond.code (m_nm 113) (m_bc 113) (m_ml 113) (m_rt 113)) := rfl
set_option maxRecDepth 100000 in
theorem m_code_114 : lw_tbl[420]? = some (Cond.code (m_nm 114) (m_bc 114) (m_ml 114) (m_rt 114)) := rfl
set_option maxRecDepth 100000 in
theorem m_code_115 : lw_tbl[420]? = some (Cond.code (m_nm 115) (m_bc 115) (m_ml 115) (m_rt 115)) := rfl
set_option maxRecDepth 100000 in
theorem m_code_116 : lw_tbl[420]? = some (Cond.code (m_nm 116) (m_bc 116) (m_ml 116) (m_rt 116)) := rfl
set_option maxRecDepth 100000 in
theorem m_code_117 : lw_tbl[420]? = some (Cond.code (m_nm 117) (m_bc 117) (m_ml 117) (m_rt 117)) := rfl
set_option maxRecDepth 100000 in
theorem m_code_118 : lw_tbl[420]? = some (Cond.code (m_nm 118) (m_bc 118) (m_ml 118) (m_rt 118)) := rfl
set_option maxRecDepth 100000 in
theorem m_code_119 : lw_tbl[420]? = some (Cond.code (m_nm 119) (m_bc 119) (m_ml 119) (m_rt 119)) := rfl
set_option maxRecDepth 100000 in
theorem m_code_120 : lw_tbl[420]? = some (Cond.code (m_nm 120) (m_bc 120) (m_ml 120) (m_rt 120)) := rfl
set_option maxRecDepth 100000 in
theorem m_code_121 : lw_tbl[420]? = some (Cond.code (m_nm 121) (m_bc 121) (m_ml 121) (m_rt 121)) := rfl
set_option maxRecDepth 100000 in
theorem m_code_122 : lw_tbl[420]? = some (Cond.code (m_nm 122) (m_bc 122) (m_ml 122) (m_rt 122)) := rfl
set_option maxRecDepth 100000 in
theorem m_code_123 : lw_tbl[420]? = some (Cond.code (m_nm 123) (m_bc 123) (m_ml 123) (m_rt 123)) := rfl
set_option maxRecDepth 100000 in
theorem m_code_124 : lw_tbl[420]? = some (Cond.code (m_nm 124) (m_bc 124) (m_ml 124) (m_rt 124)) := rfl
set_option maxRecDepth 100000 in
theorem m_code_125 : lw_tbl[420]? = some (Cond.code (m_nm 125) (m_bc 125) (m_ml 125) (m_rt 125)) := rfl
set_option maxRecDepth 100000 in
theorem m_code_126 : lw_tbl[420]? = some (Cond.code (m_nm 126) (m_bc 126) (m_ml 126) (m_rt 126)) := rfl
set_option maxRecDepth 100000 in
theorem m_code_127 : lw_tbl[420]? = some (Cond.code (m_nm 127) (m_bc 127) (m_ml 127) (m_rt 127)) := rfl
set_option maxRecDepth 100000 in
theorem m_code_128 : lw_tbl[420]? = some (Cond.code (m_nm 128) (m_bc 128) (m_ml 128) (m_rt 128)) := rfl
set_option maxRecDepth 100000 in
theorem m_code_129 : lw_tbl[420]? = some (Cond.code (m_nm 129) (m_bc 129) (m_ml 129) (m_rt 129)) := rfl
set_option maxRecDepth 100000 in
theorem m_code_130 : lw_tbl[420]? = some (Cond.code (m_nm 130) (m_bc 130) (m_ml 130) (m_rt 130)) := rfl
set_option maxRecDepth 100000 in
theorem m_code_131 : lw_tbl[420]? = some (Cond.code (m_nm 131) (m_bc 131) (m_ml 131) (m_rt 131)) := rfl
set_option maxRecDepth 100000 in
theorem m_code_132 : lw_tbl[420]? = some (Cond.code (m_nm 132) (m_bc 132) (m_ml 132) (m_rt 132)) := rfl
set_option maxRecDepth 100000 in
theorem m_code_133 : lw_tbl[420]? = some (Cond.code (m_nm 133) (m_bc 133) (m_ml 133) (m_rt 133)) := rfl
set_option maxRecDepth 100000 in
theorem m_code_134 : lw_tbl[420]? = some (Cond.code (m_nm 134) (m_bc 134) (m_ml 134) (m_rt 134)) := rfl
set_option maxRecDepth 100000 in
theorem m_code_135 : lw_tbl[420]? = some (Cond.code (m_nm 135) (m_bc 135) (m_ml 135) (m_rt 135)) := rfl
set_option maxRecDepth 100000 in
theorem m_code_136 : lw_tbl[420]? = some (Cond.code (m_nm 136) (m_bc 136) (m_ml 136) (m_rt 136)) := rfl
set_option maxRecDepth 100000 in
theorem m_code_137 : lw_tbl[420]? = some (Cond.code (m_nm 137) (m_bc 137) (m_ml 137) (m_rt 137)) := rfl
set_option maxRecDepth 100000 in
theorem m_code_138 : lw_tbl[420]? = some (Cond.code (m_nm 138) (m_bc 138) (m_ml 138) (m_rt 138)) := rfl
set_option maxRecDepth 100000 in
theorem m_code_139 : lw_tbl[420]? = some (Cond.code (m_nm 139) (m_bc 139) (m_ml 139) (m_rt 139)) := rfl
set_option maxRecDepth 100000 in
theorem m_code_140 : lw_tbl[420]? = some (Cond.code (m_nm 140) (m_bc 140) (m_ml 140) (m_rt 140)) := rfl
set_option maxRecDepth 100000 in
theorem m_code_141 : lw_tbl[420]? = some (Cond.code (m_nm 141) (m_bc 141) (m_ml 141) (m_rt 141)) := rfl
set_option maxRecDepth 100000 in
theorem m_code_142 : lw_tbl[420]? = some (Cond.code (m_nm 142) (m_bc 142) (m_ml 142) (m_rt 142)) := rfl
set_option maxRecDepth 100000 in
theorem m_code_143 : lw_tbl[420]? = some (Cond.code (m_nm 143) (m_bc 143) (m_ml 143) (m_rt 143)) := rfl
set_option maxRecDepth 100000 in
theorem m_code_144 : lw_tbl[420]? = some (Cond.code (m_nm 144) (m_bc 144) (m_ml 144) (m_rt 144)) := rfl
set_option maxRecDepth 100000 in
theorem m_code_145 : lw_tbl[420]? = some (Cond.code (m_nm 145) (m_bc 145) (m_ml 145) (m_rt 145)) := rfl
set_option maxRecDepth 100000 in
theorem m_code_146 : lw_tbl[420]? = some (Cond.code (m_nm 146) (m_bc 146) (m_ml 146) (m_rt 146)) := rfl
set_option maxRecDepth 100000 in
theorem m_code_147 : lw_tbl[420]? = some (Cond.code (m_nm 147) (m_bc 147) (m_ml 147) (m_rt 147)) := rfl
set_option maxRecDepth 100000 in
theorem m_code_148 : lw_tbl[420]? = some (Cond.code (m_nm 148) (m_bc 148) (m_ml 148) (m_rt 148)) := rfl
set_option maxRecDepth 100000 in
theorem m_code_149 : lw_tbl[420]? = some (Cond.code (m_nm 149) (m_bc 149) (m_ml 149) (m_rt 149)) := rfl
set_option maxRecDepth 100000 in
theorem m_code_150 : lw_tbl[420]? = some (Cond.code (m_nm 150) (m_bc 150) (m_ml 150) (m_rt 150)) := rfl
set_option maxRecDepth 100000 in
theorem m_code_151 : lw_tbl[420]? = some (Cond.code (m_nm 151) (m_bc 151) (m_ml 151) (m_rt 151)) := rfl
set_option maxRecDepth 100000 in
theorem m_code_152 : lw_tbl[420]? = some (Cond.code (m_nm 152) (m_bc 152) (m_ml 152) (m_rt 152)) := rfl
set_option maxRecDepth 100000 in
theorem m_code_153 : lw_tbl[420]? = some (Cond.code (m_nm 153) (m_bc 153) (m_ml 153) (m_rt 153)) := rfl
set_option maxRecDepth 100000 in
theorem m_code_154 : lw_tbl[312]? = some (Cond.code (m_nm 154) (m_bc 154) (m_ml 154) (m_rt 154)) := rfl
theorem m_codes_0 : ∀ y ∈ [0, 1, 2, 3, 4, 5, 6, 7, 8, 9, 10, 11, 12, 13, 14, 15, 16, 17, 18, 19], Cond.code (m_nm y) (m_bc y) (m_ml y) (m_rt y) ∈ lw_tbl := List.forall_mem_cons.mpr ⟨x_w m_code_0, List.forall_mem_cons.mpr ⟨x_w m_code_1, List.forall_mem_cons.mpr ⟨x_w m_code_2, List.forall_mem_cons.mpr ⟨x_w m_code_3, List.forall_mem_cons.mpr ⟨x_w m_code_4, List.forall_mem_cons.mpr ⟨x_w m_code_5, List.forall_mem_cons.mpr ⟨x_w m_code_6, List.forall_mem_cons.mpr ⟨x_w m_code_7, List.forall_mem_cons.mpr ⟨x_w m_code_8, List.forall_mem_cons.mpr ⟨x_w m_code_9, List.forall_mem_cons.mpr ⟨x_w m_code_10, List.forall_mem_cons.mpr ⟨x_w m_code_11, List.forall_mem_cons.mpr ⟨x_w m_code_12, List.forall_mem_cons.mpr ⟨x_w m_code_13, List.forall_mem_cons.mpr ⟨x_w m_code_14, List.forall_mem_cons.mpr ⟨x_w m_code_15, List.forall_mem_cons.mpr ⟨x_w m_code_16, List.forall_mem_cons.mpr ⟨x_w m_code_17, List.forall_mem_cons.mpr ⟨x_w m_code_18, List.forall_mem_cons.mpr ⟨x_w m_code_19, fun _ h => absurd h List.not_mem_nil⟩⟩⟩⟩⟩⟩⟩⟩⟩⟩⟩⟩⟩⟩⟩⟩⟩⟩⟩⟩
theorem m_codes_1 : ∀ y ∈ [20, 21, 22, 23, 24, 25, 26, 27, 28, 29, 30, 31, 32, 33, 34, 35, 36, 37, 38, 39], Cond.code (m_nm y) (m_bc y) (m_ml y) (m_rt y) ∈ lw_tbl := List.forall_mem_cons.mpr ⟨x_w m_code_20, List.forall_mem_cons.mpr ⟨x_w m_code_21, List.forall_mem_cons.mpr ⟨x_w m_code_22, List.forall_mem_cons.mpr ⟨x_w m_code_23, List.forall_mem_cons.mpr ⟨x_w m_code_24, List.forall_mem_cons.mpr ⟨x_w m_code_25, List.forall_mem_cons.mpr ⟨x_w m_code_26, List.forall_mem_cons.mpr ⟨x_w m_code_27, List.forall_mem_cons.mpr ⟨x_w m_code_28, List.forall_mem_cons.mpr ⟨x_w m_code_29, List.forall_mem_cons.mpr ⟨x_w m_code_30, List.forall_mem_cons.mpr ⟨x_w m_code_31, List.forall_mem_cons.mpr ⟨x_w m_code_32, List.forall_mem_cons.mpr ⟨x_w m_code_33, List.forall_mem_cons.mpr ⟨x_w m_code_34, List.forall_mem_cons.mpr ⟨x_w m_code_35, List.forall_mem_cons.mpr ⟨x_w m_code_36, List.forall_mem_cons.mpr ⟨x_w m_code_37, List.forall_mem_cons.mpr ⟨x_w m_code_38, List.forall_mem_cons.mpr ⟨x_w m_code_39, fun _ h => absurd h List.not_mem_nil⟩⟩⟩⟩⟩⟩⟩⟩⟩⟩⟩⟩⟩⟩⟩⟩⟩⟩⟩⟩
theorem m_codes_2 : ∀ y ∈ [40, 41, 42, 43, 44, 45, 46, 47, 48, 49, 50, 51, 52, 53, 54, 55, 56, 57, 58, 59], Cond.code (m_nm y) (m_bc y) (m_ml y) (m_rt y) ∈ lw_tbl := List.forall_mem_cons.mpr ⟨x_w m_code_40, List.forall_mem_cons.mpr ⟨x_w m_code_41, List.forall_mem_cons.mpr ⟨x_w m_code_42, List.forall_mem_cons.mpr ⟨x_w m_code_43, List.forall_mem_cons.mpr ⟨x_w m_code_44, List.forall_mem_cons.mpr ⟨x_w m_code_45, List.forall_mem_cons.mpr ⟨x_w m_code_46, List.forall_mem_cons.mpr ⟨x_w m_code_47, List.forall_mem_cons.mpr ⟨x_w m_code_48, List.forall_mem_cons.mpr ⟨x_w m_code_49, List.forall_mem_cons.mpr ⟨x_w m_code_50, List.forall_mem_cons.mpr ⟨x_w m_code_51, List.forall_mem_cons.mpr ⟨x_w m_code_52, List.forall_mem_cons.mpr ⟨x_w m_code_53, List.forall_mem_cons.mpr ⟨x_w m_code_54, List.forall_mem_cons.mpr ⟨x_w m_code_55, List.forall_mem_cons.mpr ⟨x_w m_code_56, List.forall_mem_cons.mpr ⟨x_w m_code_57, List.forall_mem_cons.mpr ⟨x_w m_code_58, List.forall_mem_cons.mpr ⟨x_w m_code_59, fun _ h => absurd h List.not_mem_nil⟩⟩⟩⟩⟩⟩⟩⟩⟩⟩⟩⟩⟩⟩⟩⟩⟩⟩⟩⟩
theorem m_codes_3 : ∀ y ∈ [60, 61, 62, 63, 64, 65, 66, 67, 68, 69, 70, 71, 72, 73, 74, 75, 76, 77, 78, 79], Cond.code (m_nm y) (m_bc y) (m_ml y) (m_rt y) ∈ lw_tbl := List.forall_mem_cons.mpr ⟨x_w m_code_60, List.forall_mem_cons.mpr ⟨x_w m_code_61, List.forall_mem_cons.mpr ⟨x_w m_code_62, List.forall_mem_cons.mpr ⟨x_w m_code_63, List.forall_mem_cons.mpr ⟨x_w m_code_64, List.forall_mem_cons.mpr ⟨x_w m_code_65, List.forall_mem_cons.mpr ⟨x_w m_code_66, List.forall_mem_cons.mpr ⟨x_w m_code_67, List.forall_mem_cons.mpr ⟨x_w m_code_68, List.forall_mem_cons.mpr ⟨x_w m_code_69, List.forall_mem_cons.mpr ⟨x_w m_code_70, List.forall_mem_cons.mpr ⟨x_w m_code_71, List.forall_mem_cons.mpr ⟨x_w m_code_72, List.forall_mem_cons.mpr ⟨x_w m_code_73, List.forall_mem_cons.mpr ⟨x_w m_code_74, List.forall_mem_cons.mpr ⟨x_w m_code_75, List.forall_mem_cons.mpr ⟨x_w m_code_76, List.forall_mem_cons.mpr ⟨x_w m_code_77, List.forall_mem_cons.mpr ⟨x_w m_code_78, List.forall_mem_cons.mpr ⟨x_w m_code_79, fun _ h => absurd h List.not_mem_nil⟩⟩⟩⟩⟩⟩⟩⟩⟩⟩⟩⟩⟩⟩⟩⟩⟩⟩⟩⟩
theorem m_codes_4 : ∀ y ∈ [80, 81, 82, 83, 84, 85, 86, 87, 88, 89, 90, 91, 92, 93, 94, 95, 96, 97, 98, 99], Cond.code (m_nm y) (m_bc y) (m_ml y) (m_rt y) ∈ lw_tbl := List.forall_mem_cons.mpr ⟨x_w m_code_80, List.forall_mem_cons.mpr ⟨x_w m_code_81, List.forall_mem_cons.mpr ⟨x_w m_code_82, List.forall_mem_cons.mpr ⟨x_w m_code_83, List.forall_mem_cons.mpr ⟨x_w m_code_84, List.forall_mem_cons.mpr ⟨x_w m_code_85, List.forall_mem_cons.mpr ⟨x_w m_code_86, List.forall_mem_cons.mpr ⟨x_w m_code_87, List.forall_mem_cons.mpr ⟨x_w m_code_88, List.forall_mem_cons.mpr ⟨x_w m_code_89, List.forall_mem_cons.mpr ⟨x_w m_code_90, List.forall_mem_cons.mpr ⟨x_w m_code_91, List.forall_mem_cons.mpr ⟨x_w m_code_92, List.forall_mem_cons.mpr ⟨x_w m_code_93, List.forall_mem_cons.mpr ⟨x_w m_code_94, List.forall_mem_cons.mpr ⟨x_w m_code_95, List.forall_mem_cons.mpr ⟨x_w m_code_96, List.forall_mem_cons.mpr ⟨x_w m_code_97, List.forall_mem_cons.mpr ⟨x_w m_code_98, List.forall_mem_cons.mpr ⟨x_w m_code_99, fun _ h => absurd h List.not_mem_nil⟩⟩⟩⟩⟩⟩⟩⟩⟩⟩⟩⟩⟩⟩⟩⟩⟩⟩⟩⟩
theorem m_codes_5 : ∀ y ∈ [100, 101, 102, 103, 104, 105, 106, 107, 108, 109, 110, 111, 112, 113, 114, 115, 116, 117, 118, 119], Cond.code (m_nm y) (m_bc y) (m_ml y) (m_rt y) ∈ lw_tbl := List.forall_mem_cons.mpr ⟨x_w m_code_100, List.forall_mem_cons.mpr ⟨x_w m_code_101, List.forall_mem_cons.mpr ⟨x_w m_code_102, List.forall_mem_cons.mpr ⟨x_w m_code_103, List.forall_mem_cons.mpr ⟨x_w m_code_104, List.forall_mem_cons.mpr ⟨x_w m_code_105, List.forall_mem_cons.mpr ⟨x_w m_code_106, List.forall_mem_cons.mpr ⟨x_w m_code_107, List.forall_mem_cons.mpr ⟨x_w m_code_108, List.forall_mem_cons.mpr ⟨x_w m_code_109, List.forall_mem_cons.mpr ⟨x_w m_code_110, List.forall_mem_cons.mpr ⟨x_w m_code_111, List.forall_mem_cons.mpr ⟨x_w m_code_112, List.forall_mem_cons.mpr ⟨x_w m_code_113, List.forall_mem_cons.mpr ⟨x_w m_code_114, List.forall_mem_cons.mpr ⟨x_w m_code_115, List.forall_mem_cons.mpr ⟨x_w m_code_116, List.forall_mem_cons.mpr ⟨x_w m_code_117, List.forall_mem_cons.mpr ⟨x_w m_code_118, List.forall_mem_cons.mpr ⟨x_w m_code_119, fun _ h => absurd h List.not_mem_nil⟩⟩⟩⟩⟩⟩⟩⟩⟩⟩⟩⟩⟩⟩⟩⟩⟩⟩⟩⟩
theorem m_codes_6 : ∀ y ∈ [120, 121, 122, 123, 124, 125, 126, 127, 128, 129, 130, 131, 132, 133, 134, 135, 136, 137, 138, 139], Cond.code (m_nm y) (m_bc y) (m_ml y) (m_rt y) ∈ lw_tbl := List.forall_mem_cons.mpr ⟨x_w m_code_120, List.forall_mem_cons.mpr ⟨x_w m_code_121, List.forall_mem_cons.mpr ⟨x_w m_code_122, List.forall_mem_cons.mpr ⟨x_w m_code_123, List.forall_mem_cons.mpr ⟨x_w m_code_124, List.forall_mem_cons.mpr ⟨x_w m_code_125, List.forall_mem_cons.mpr ⟨x_w m_code_126, List.forall_mem_cons.mpr ⟨x_w m_code_127, List.forall_mem_cons.mpr ⟨x_w m_code_128, List.forall_mem_cons.mpr ⟨x_w m_code_129, List.forall_mem_cons.mpr ⟨x_w m_code_130, List.forall_mem_cons.mpr ⟨x_w m_code_131, List.forall_mem_cons.mpr ⟨x_w m_code_132, List.forall_mem_cons.mpr ⟨x_w m_code_133, List.forall_mem_cons.mpr ⟨x_w m_code_134, List.forall_mem_cons.mpr ⟨x_w m_code_135, List.forall_mem_cons.mpr ⟨x_w m_code_136, List.forall_mem_cons.mpr ⟨x_w m_code_137, List.forall_mem_cons.mpr ⟨x_w m_code_138, List.forall_mem_cons.mpr ⟨x_w m_code_139, fun _ h => absurd h List.not_mem_nil⟩⟩⟩⟩⟩⟩⟩⟩⟩⟩⟩⟩⟩⟩⟩⟩⟩⟩⟩⟩
theorem m_codes_7 : ∀ y ∈ [140, 141, 142, 143, 144, 145, 146, 147, 148, 149, 150, 151, 152, 153, 154], Cond.code (m_nm y) (m_bc y) (m_ml y) (m_rt y) ∈ lw_tbl := List.forall_mem_cons.mpr ⟨x_w m_code_140, List.forall_mem_cons.mpr ⟨x_w m_code_141, List.forall_mem_cons.mpr ⟨x_w m_code_142, List.forall_mem_cons.mpr ⟨x_w m_code_143, List.forall_mem_cons.mpr ⟨x_w m_code_144, List.forall_mem_cons.mpr ⟨x_w m_code_145, List.forall_mem_cons.mpr ⟨x_w m_code_146, List.forall_mem_cons.mpr ⟨x_w m_code_147, List.forall_mem_cons.mpr ⟨x_w m_code_148, List.forall_mem_cons.mpr ⟨x_w m_code_149, List.forall_mem_cons.mpr ⟨x_w m_code_150, List.forall_mem_cons.mpr ⟨x_w m_code_151, List.forall_mem_cons.mpr ⟨x_w m_code_152, List.forall_mem_cons.mpr ⟨x_w m_code_153, List.forall_mem_cons.mpr ⟨x_w m_code_154, fun _ h => absurd h List.not_mem_nil⟩⟩⟩⟩⟩⟩⟩⟩⟩⟩⟩⟩⟩⟩⟩
theorem m_code (y : Nat) (hy : y < 155) : Cond.code (m_nm y) (m_bc y) (m_ml y) (m_rt y) ∈ lw_tbl := by
  have h : ∀ y ∈ List.range 155, Cond.code (m_nm y) (m_bc y) (m_ml y) (m_rt y) ∈ lw_tbl := by
    rw [show List.range 155 = [0, 1, 2, 3, 4, 5, 6, 7, 8, 9, 10, 11, 12, 13, 14, 15, 16, 17, 18, 19] ++ ([20, 21, 22, 23, 24, 25, 26, 27, 28, 29, 30, 31, 32, 33, 34, 35, 36, 37, 38, 39] ++ ([40, 41, 42, 43, 44, 45, 46, 47, 48, 49, 50, 51, 52, 53, 54, 55, 56, 57, 58, 59] ++ ([60, 61, 62, 63, 64, 65, 66, 67, 68, 69, 70, 71, 72, 73, 74, 75, 76, 77, 78, 79] ++ ([80, 81, 82, 83, 84, 85, 86, 87, 88, 89, 90, 91, 92, 93, 94, 95, 96, 97, 98, 99] ++ ([100, 101, 102, 103, 104, 105, 106, 107, 108, 109, 110, 111, 112, 113, 114, 115, 116, 117, 118, 119] ++ ([120, 121, 122, 123, 124, 125, 126, 127, 128, 129, 130, 131, 132, 133, 134, 135, 136, 137, 138, 139] ++ ([140, 141, 142, 143, 144, 145, 146, 147, 148, 149, 150, 151, 152, 153, 154]))))))) from by decide +kernel]
    exact List.forall_mem_append.mpr ⟨m_codes_0, List.forall_mem_append.mpr ⟨m_codes_1, List.forall_mem_append.mpr ⟨m_codes_2, List.forall_mem_append.mpr ⟨m_codes_3, List.forall_mem_append.mpr ⟨m_codes_4, List.forall_mem_append.mpr ⟨m_codes_5, List.forall_mem_append.mpr ⟨m_codes_6, m_codes_7⟩⟩⟩⟩⟩⟩⟩
  exact h y (List.mem_range.mpr hy)
def x_iws : List Nat := [13, 13, 13, 13, 13, 13, 13, 13, 12, 13, 13, 12, 13, 13, 13, 13, 13, 12, 13, 13, 13, 13, 13, 13, 13, 12, 14, 14, 14, 14, 17, 17, 17, 17, 17, 17, 17, 17, 12, 17, 17, 17, 17, 17, 17, 17, 15, 12, 12, 12, 12, 12, 12, 12, 16, 12, 12, 12, 12, 12, 12, 12, 12, 12, 12, 12, 12, 12, 12, 12, 12, 12, 12, 12, 12, 12, 12, 12, 12, 12, 12, 12, 12, 12, 12, 12, 12, 12, 12, 12, 12, 12, 11, 11, 11, 11, 12, 12, 12, 12, 12, 12, 12, 12, 12, 12, 12, 12, 12, 12, 12, 12, 12, 12, 12, 12, 12, 12, 12, 12, 12, 12, 12, 12, 12, 12, 12, 12, 12, 12, 12, 12, 12, 12, 12, 12, 12, 12, 12, 12, 12, 12, 12, 12, 12, 12, 12, 12, 12, 12, 12, 12, 12, 12, 18]
theorem m_ini : ∀ y, y < 155 → lw_tbl[x_iws.getD y 0]? = some (Cond.initialized (m_cn y)) := by decide +kernel
theorem m_facts : ∀ y, y < 155 → (plainName (m_cn y) = true ∧ m_cn y ≠ "java/lang/invoke/MethodHandle" ∧ m_cn y ≠ "java/lang/invoke/VarHandle" ∧ (parseMethodDescriptor (m_nm y).desc).map (fun d => d.parameters.length) = some (m_np y) ∧ m_ml y ≤ 17) := by decide +kernel
def x_mws : List (Nat × Nat × Nat) := [(33, 26, 27), (202, 204, 2), (243, 228, 229), (256, 214, 215), (281, 282, 283), (297, 290, 291), (358, 360, 9), (362, 311, 362), (337, 253, 254), (342, 278, 279), (338, 339, 340), (343, 344, 345), (346, 347, 348), (75, 26, 27), (78, 31, 78), (194, 196, 1), (198, 199, 200), (132, 26, 27), (269, 271, 3), (298, 300, 5), (265, 266, 267), (316, 318, 8), (425, 427, 10), (443, 282, 283), (285, 287, 4), (289, 290, 291), (293, 294, 295), (439, 440, 441), (273, 274, 275), (277, 278, 279), (302, 304, 6), (306, 308, 7), (310, 311, 310), (92, 26, 27), (114, 26, 27), (116, 31, 116), (25, 26, 27), (30, 31, 30), (72, 73, 72), (89, 90, 89), (111, 112, 111), (129, 130, 129), (177, 178, 177), (186, 188, 0), (190, 191, 192), (210, 211, 210), (213, 214, 215), (219, 220, 221), (227, 228, 229), (180, 181, 180), (231, 232, 233), (239, 240, 241), (244, 245, 246), (252, 253, 254), (257, 258, 257), (261, 262, 263), (320, 321, 320), (327, 328, 329), (331, 266, 267), (332, 274, 275), (333, 334, 335), (350, 351, 352), (354, 355, 356), (363, 364, 365), (371, 372, 373), (418, 419, 418), (379, 380, 379), (421, 422, 423), (385, 386, 385), (458, 440, 441), (435, 436, 437), (384, 278, 279), (463, 464, 465), (411, 339, 340), (413, 347, 348), (388, 389, 388), (391, 344, 345), (392, 393, 394), (323, 324, 325), (248, 249, 250), (403, 404, 405), (407, 408, 409), (414, 415, 416), (431, 432, 433), (22, 23, 22), (395, 396, 395), (173, 174, 175), (206, 207, 208), (447, 448, 447), (223, 224, 225), (400, 401, 400), (450, 451, 452), (454, 455, 456), (459, 460, 461), (444, 445, 444), (235, 236, 237), (375, 376, 377), (367, 368, 369)]
def x_mok (q : Nat × Nat × Nat × Nat) (p : Nat × Nat × Nat) : Prop := match q.2.2.1 with
  | 0 => lw_tbl[p.1]? = some (.methodLink (x_cn q.1) q.2.1 (m_nm q.2.2.2)) ∧ lw_tbl[p.2.1]? = some (.instanceMethod (m_nm q.2.2.2)) ∧ lw_tbl[p.2.2]? = some (.selects (m_cn q.2.2.2) (m_nm q.2.2.2) (m_nm q.2.2.2)) ∧ q.2.2.2 < 155
  | 1 => lw_tbl[p.1]? = some (.methodLink (x_cn q.1) q.2.1 (m_nm q.2.2.2)) ∧ lw_tbl[p.2.1]? = some (.static (m_nm q.2.2.2)) ∧ (m_cn q.2.2.2 = x_cn q.1 ∨ True) ∧ q.2.2.2 < 155
  | 2 => lw_tbl[p.1]? = some (.methodLink (x_cn q.1) q.2.1 (m_nm q.2.2.2)) ∧ lw_tbl[p.2.1]? = some (.instanceMethod (m_nm q.2.2.2)) ∧ (m_nd q.2.2.2).1 = "<init>" ∧ q.2.2.2 < 155 ∧ m_rt q.2.2.2 = none
  | 3 => lw_tbl[p.1]? = some (.methodLink (x_cn q.1) q.2.1 Lib.objectInit) ∧ lw_tbl[p.2.1]? = some (.instanceMethod Lib.objectInit) ∧ lw_tbl[p.2.2]? = some (.code Lib.objectInit ⟨#[0xb1]⟩ 1 none)
  | 4 => lw_tbl[p.1]? = some (.methodLink (x_cn q.1) q.2.1 Lib.MathLoose.abs_long.x) ∧ lw_tbl[p.2.1]? = some (.static Lib.MathLoose.abs_long.x) ∧ lw_tbl[p.2.2]? = some (.code Lib.MathLoose.abs_long.x Lib.MathLoose.abs_long.code 2 (some .long))
  | 5 => lw_tbl[p.1]? = some (.methodLink (x_cn q.1) q.2.1 Lib.MathLoose.max_long.x) ∧ lw_tbl[p.2.1]? = some (.static Lib.MathLoose.max_long.x) ∧ lw_tbl[p.2.2]? = some (.code Lib.MathLoose.max_long.x Lib.MathLoose.max_long.code 4 (some .long))
  | 6 => lw_tbl[p.1]? = some (.methodLinkNest (x_cn q.1) q.2.1 (m_nm q.2.2.2) "WeighingDesign") ∧ lw_tbl[p.2.1]? = some (.static (m_nm q.2.2.2)) ∧ q.2.2.2 < 155
  | _ => False
def x_mp : List ((Nat × Nat × Nat × Nat) × (Nat × Nat × Nat)) := x_mls.zip x_mws
theorem x_len : x_mls.length = x_mws.length := by decide +kernel
theorem x_mok_0 : x_mok (0, 3, 3, 0) (33, 26, 27) := ⟨by decide +kernel, by decide +kernel, by decide +kernel⟩
theorem x_mok_1 : x_mok (0, 37, 0, 2) (202, 204, 2) := ⟨by decide +kernel, by decide +kernel, by decide +kernel, by decide +kernel⟩
theorem x_mok_2 : x_mok (0, 41, 0, 3) (243, 228, 229) := ⟨by decide +kernel, by decide +kernel, by decide +kernel, by decide +kernel⟩
theorem x_mok_3 : x_mok (0, 45, 0, 6) (256, 214, 215) := ⟨by decide +kernel, by decide +kernel, by decide +kernel, by decide +kernel⟩
theorem x_mok_4 : x_mok (0, 55, 0, 5) (281, 282, 283) := ⟨by decide +kernel, by decide +kernel, by decide +kernel, by decide +kernel⟩
theorem x_mok_5 : x_mok (0, 58, 0, 15) (297, 290, 291) := ⟨by decide +kernel, by decide +kernel, by decide +kernel, by decide +kernel⟩
theorem x_mok_6 : x_mok (0, 61, 0, 19) (358, 360, 9) := ⟨by decide +kernel, by decide +kernel, by decide +kernel, by decide +kernel⟩
theorem x_mok_7 : x_mok (0, 65, 1, 154) (362, 311, 362) := ⟨by decide +kernel, by decide +kernel, Or.inr trivial, by decide +kernel⟩
theorem x_mok_8 : x_mok (0, 70, 0, 20) (337, 253, 254) := ⟨by decide +kernel, by decide +kernel, by decide +kernel, by decide +kernel⟩
theorem x_mok_9 : x_mok (0, 73, 0, 14) (342, 278, 279) := ⟨by decide +kernel, by decide +kernel, by decide +kernel, by decide +kernel⟩
theorem x_mok_10 : x_mok (0, 76, 0, 22) (338, 339, 340) := ⟨by decide +kernel, by decide +kernel, by decide +kernel, by decide +kernel⟩
theorem x_mok_11 : x_mok (0, 80, 4, 0) (343, 344, 345) := ⟨by decide +kernel, by decide +kernel, by decide +kernel⟩
theorem x_mok_12 : x_mok (0, 86, 0, 23) (346, 347, 348) := ⟨by decide +kernel, by decide +kernel, by decide +kernel, by decide +kernel⟩
theorem x_mok_13 : x_mok (1, 3, 3, 0) (75, 26, 27) := ⟨by decide +kernel, by decide +kernel, by decide +kernel⟩
theorem x_mok_14 : x_mok (1, 17, 2, 0) (78, 31, 78) := ⟨by decide +kernel, by decide +kernel, by decide +kernel, by decide +kernel, by decide +kernel⟩
theorem x_mok_15 : x_mok (1, 22, 0, 28) (194, 196, 1) := ⟨by decide +kernel, by decide +kernel, by decide +kernel, by decide +kernel⟩
theorem x_mok_16 : x_mok (1, 25, 0, 1) (198, 199, 200) := ⟨by decide +kernel, by decide +kernel, by decide +kernel, by decide +kernel⟩
theorem x_mok_17 : x_mok (2, 3, 3, 0) (132, 26, 27) := ⟨by decide +kernel, by decide +kernel, by decide +kernel⟩
theorem x_mok_18 : x_mok (2, 26, 0, 39) (269, 271, 3) := ⟨by decide +kernel, by decide +kernel, by decide +kernel, by decide +kernel⟩
theorem x_mok_19 : x_mok (2, 30, 0, 42) (298, 300, 5) := ⟨by decide +kernel, by decide +kernel, by decide +kernel, by decide +kernel⟩
theorem x_mok_20 : x_mok (2, 34, 0, 31) (265, 266, 267) := ⟨by decide +kernel, by decide +kernel, by decide +kernel, by decide +kernel⟩
theorem x_mok_21 : x_mok (2, 38, 0, 41) (316, 318, 8) := ⟨by decide +kernel, by decide +kernel, by decide +kernel, by decide +kernel⟩
theorem x_mok_22 : x_mok (2, 48, 0, 43) (425, 427, 10) := ⟨by decide +kernel, by decide +kernel, by decide +kernel, by decide +kernel⟩
theorem x_mok_23 : x_mok (2, 51, 0, 5) (443, 282, 283) := ⟨by decide +kernel, by decide +kernel, by decide +kernel, by decide +kernel⟩
theorem x_mok_24 : x_mok (2, 55, 0, 40) (285, 287, 4) := ⟨by decide +kernel, by decide +kernel, by decide +kernel, by decide +kernel⟩
theorem x_mok_25 : x_mok (2, 59, 0, 15) (289, 290, 291) := ⟨by decide +kernel, by decide +kernel, by decide +kernel, by decide +kernel⟩
theorem x_mok_26 : x_mok (2, 72, 0, 16) (293, 294, 295) := ⟨by decide +kernel, by decide +kernel, by decide +kernel, by decide +kernel⟩
theorem x_mok_27 : x_mok (2, 79, 0, 36) (439, 440, 441) := ⟨by decide +kernel, by decide +kernel, by decide +kernel, by decide +kernel⟩
theorem x_mok_28 : x_mok (2, 91, 0, 12) (273, 274, 275) := ⟨by decide +kernel, by decide +kernel, by decide +kernel, by decide +kernel⟩
theorem x_mok_29 : x_mok (2, 94, 0, 14) (277, 278, 279) := ⟨by decide +kernel, by decide +kernel, by decide +kernel, by decide +kernel⟩
theorem x_mok_30 : x_mok (2, 98, 0, 44) (302, 304, 6) := ⟨by decide +kernel, by decide +kernel, by decide +kernel, by decide +kernel⟩
theorem x_mok_31 : x_mok (2, 102, 0, 45) (306, 308, 7) := ⟨by decide +kernel, by decide +kernel, by decide +kernel, by decide +kernel⟩
theorem x_mok_32 : x_mok (2, 106, 1, 154) (310, 311, 310) := ⟨by decide +kernel, by decide +kernel, Or.inr trivial, by decide +kernel⟩
theorem x_mok_33 : x_mok (3, 3, 3, 0) (92, 26, 27) := ⟨by decide +kernel, by decide +kernel, by decide +kernel⟩
theorem x_mok_34 : x_mok (4, 3, 3, 0) (114, 26, 27) := ⟨by decide +kernel, by decide +kernel, by decide +kernel⟩
theorem x_mok_35 : x_mok (4, 11, 2, 0) (116, 31, 116) := ⟨by decide +kernel, by decide +kernel, by decide +kernel, by decide +kernel, by decide +kernel⟩
theorem x_mok_36 : x_mok (5, 1, 3, 0) (25, 26, 27) := ⟨by decide +kernel, by decide +kernel, by decide +kernel⟩
theorem x_mok_37 : x_mok (5, 9, 2, 0) (30, 31, 30) := ⟨by decide +kernel, by decide +kernel, by decide +kernel, by decide +kernel, by decide +kernel⟩
theorem x_mok_38 : x_mok (5, 18, 2, 26) (72, 73, 72) := ⟨by decide +kernel, by decide +kernel, by decide +kernel, by decide +kernel, by decide +kernel⟩
theorem x_mok_39 : x_mok (5, 25, 2, 46) (89, 90, 89) := ⟨by decide +kernel, by decide +kernel, by decide +kernel, by decide +kernel, by decide +kernel⟩
theorem x_mok_40 : x_mok (5, 32, 2, 54) (111, 112, 111) := ⟨by decide +kernel, by decide +kernel, by decide +kernel, by decide +kernel, by decide +kernel⟩
theorem x_mok_41 : x_mok (5, 39, 2, 30) (129, 130, 129) := ⟨by decide +kernel, by decide +kernel, by decide +kernel, by decide +kernel, by decide +kernel⟩
theorem x_mok_42 : x_mok (5, 44, 1, 82) (177, 178, 177) := ⟨by decide +kernel, by decide +kernel, Or.inr trivial, by decide +kernel⟩
theorem x_mok_43 : x_mok (5, 49, 0, 83) (186, 188, 0) := ⟨by decide +kernel, by decide +kernel, by decide +kernel, by decide +kernel⟩
theorem x_mok_44 : x_mok (5, 53, 0, 27) (190, 191, 192) := ⟨by decide +kernel, by decide +kernel, by decide +kernel, by decide +kernel⟩
theorem x_mok_45 : x_mok (5, 67, 1, 85) (210, 211, 210) := ⟨by decide +kernel, by decide +kernel, Or.inr trivial, by decide +kernel⟩
theorem x_mok_46 : x_mok (5, 71, 0, 6) (213, 214, 215) := ⟨by decide +kernel, by decide +kernel, by decide +kernel, by decide +kernel⟩
theorem x_mok_47 : x_mok (5, 80, 0, 7) (219, 220, 221) := ⟨by decide +kernel, by decide +kernel, by decide +kernel, by decide +kernel⟩
theorem x_mok_48 : x_mok (5, 83, 0, 3) (227, 228, 229) := ⟨by decide +kernel, by decide +kernel, by decide +kernel, by decide +kernel⟩
theorem x_mok_49 : x_mok (5, 90, 1, 84) (180, 181, 180) := ⟨by decide +kernel, by decide +kernel, Or.inr trivial, by decide +kernel⟩
theorem x_mok_50 : x_mok (5, 97, 0, 9) (231, 232, 233) := ⟨by decide +kernel, by decide +kernel, by decide +kernel, by decide +kernel⟩
theorem x_mok_51 : x_mok (5, 100, 0, 4) (239, 240, 241) := ⟨by decide +kernel, by decide +kernel, by decide +kernel, by decide +kernel⟩
theorem x_mok_52 : x_mok (5, 103, 0, 10) (244, 245, 246) := ⟨by decide +kernel, by decide +kernel, by decide +kernel, by decide +kernel⟩
theorem x_mok_53 : x_mok (5, 113, 0, 20) (252, 253, 254) := ⟨by decide +kernel, by decide +kernel, by decide +kernel, by decide +kernel⟩
theorem x_mok_54 : x_mok (5, 116, 1, 88) (257, 258, 257) := ⟨by decide +kernel, by decide +kernel, Or.inr trivial, by decide +kernel⟩
theorem x_mok_55 : x_mok (5, 119, 0, 32) (261, 262, 263) := ⟨by decide +kernel, by decide +kernel, by decide +kernel, by decide +kernel⟩
theorem x_mok_56 : x_mok (5, 123, 1, 89) (320, 321, 320) := ⟨by decide +kernel, by decide +kernel, Or.inr trivial, by decide +kernel⟩
theorem x_mok_57 : x_mok (5, 130, 0, 13) (327, 328, 329) := ⟨by decide +kernel, by decide +kernel, by decide +kernel, by decide +kernel⟩
theorem x_mok_58 : x_mok (5, 134, 0, 31) (331, 266, 267) := ⟨by decide +kernel, by decide +kernel, by decide +kernel, by decide +kernel⟩
theorem x_mok_59 : x_mok (5, 138, 0, 12) (332, 274, 275) := ⟨by decide +kernel, by decide +kernel, by decide +kernel, by decide +kernel⟩
theorem x_mok_60 : x_mok (5, 141, 0, 24) (333, 334, 335) := ⟨by decide +kernel, by decide +kernel, by decide +kernel, by decide +kernel⟩
theorem x_mok_61 : x_mok (5, 145, 0, 21) (350, 351, 352) := ⟨by decide +kernel, by decide +kernel, by decide +kernel, by decide +kernel⟩
theorem x_mok_62 : x_mok (5, 148, 0, 18) (354, 355, 356) := ⟨by decide +kernel, by decide +kernel, by decide +kernel, by decide +kernel⟩
theorem x_mok_63 : x_mok (5, 157, 0, 33) (363, 364, 365) := ⟨by decide +kernel, by decide +kernel, by decide +kernel, by decide +kernel⟩
theorem x_mok_64 : x_mok (5, 161, 0, 29) (371, 372, 373) := ⟨by decide +kernel, by decide +kernel, by decide +kernel, by decide +kernel⟩
theorem x_mok_65 : x_mok (5, 164, 1, 86) (418, 419, 418) := ⟨by decide +kernel, by decide +kernel, Or.inr trivial, by decide +kernel⟩
theorem x_mok_66 : x_mok (5, 167, 1, 87) (379, 380, 379) := ⟨by decide +kernel, by decide +kernel, Or.inr trivial, by decide +kernel⟩
theorem x_mok_67 : x_mok (5, 172, 0, 34) (421, 422, 423) := ⟨by decide +kernel, by decide +kernel, by decide +kernel, by decide +kernel⟩
theorem x_mok_68 : x_mok (5, 177, 1, 90) (385, 386, 385) := ⟨by decide +kernel, by decide +kernel, Or.inr trivial, by decide +kernel⟩
theorem x_mok_69 : x_mok (5, 189, 0, 36) (458, 440, 441) := ⟨by decide +kernel, by decide +kernel, by decide +kernel, by decide +kernel⟩
theorem x_mok_70 : x_mok (5, 193, 0, 37) (435, 436, 437) := ⟨by decide +kernel, by decide +kernel, by decide +kernel, by decide +kernel⟩
theorem x_mok_71 : x_mok (5, 199, 0, 14) (384, 278, 279) := ⟨by decide +kernel, by decide +kernel, by decide +kernel, by decide +kernel⟩
theorem x_mok_72 : x_mok (5, 205, 0, 35) (463, 464, 465) := ⟨by decide +kernel, by decide +kernel, by decide +kernel, by decide +kernel⟩
theorem x_mok_73 : x_mok (5, 212, 0, 22) (411, 339, 340) := ⟨by decide +kernel, by decide +kernel, by decide +kernel, by decide +kernel⟩
theorem x_mok_74 : x_mok (5, 218, 0, 23) (413, 347, 348) := ⟨by decide +kernel, by decide +kernel, by decide +kernel, by decide +kernel⟩
theorem x_mok_75 : x_mok (5, 248, 1, 91) (388, 389, 388) := ⟨by decide +kernel, by decide +kernel, Or.inr trivial, by decide +kernel⟩
theorem x_mok_76 : x_mok (5, 252, 4, 0) (391, 344, 345) := ⟨by decide +kernel, by decide +kernel, by decide +kernel⟩
theorem x_mok_77 : x_mok (5, 258, 5, 0) (392, 393, 394) := ⟨by decide +kernel, by decide +kernel, by decide +kernel⟩
theorem x_mok_78 : x_mok (7, 9, 0, 66) (323, 324, 325) := ⟨by decide +kernel, by decide +kernel, by decide +kernel, by decide +kernel⟩
theorem x_mok_79 : x_mok (7, 15, 0, 63) (248, 249, 250) := ⟨by decide +kernel, by decide +kernel, by decide +kernel, by decide +kernel⟩
theorem x_mok_80 : x_mok (7, 19, 0, 65) (403, 404, 405) := ⟨by decide +kernel, by decide +kernel, by decide +kernel, by decide +kernel⟩
theorem x_mok_81 : x_mok (7, 22, 0, 76) (407, 408, 409) := ⟨by decide +kernel, by decide +kernel, by decide +kernel, by decide +kernel⟩
theorem x_mok_82 : x_mok (7, 26, 0, 68) (414, 415, 416) := ⟨by decide +kernel, by decide +kernel, by decide +kernel, by decide +kernel⟩
theorem x_mok_83 : x_mok (7, 31, 0, 71) (431, 432, 433) := ⟨by decide +kernel, by decide +kernel, by decide +kernel, by decide +kernel⟩
theorem x_mok_84 : x_mok (7, 34, 2, 57) (22, 23, 22) := ⟨by decide +kernel, by decide +kernel, by decide +kernel, by decide +kernel, by decide +kernel⟩
theorem x_mok_85 : x_mok (7, 35, 1, 92) (395, 396, 395) := ⟨by decide +kernel, by decide +kernel, Or.inr trivial, by decide +kernel⟩
theorem x_mok_86 : x_mok (7, 41, 0, 58) (173, 174, 175) := ⟨by decide +kernel, by decide +kernel, by decide +kernel, by decide +kernel⟩
theorem x_mok_87 : x_mok (7, 44, 0, 59) (206, 207, 208) := ⟨by decide +kernel, by decide +kernel, by decide +kernel, by decide +kernel⟩
theorem x_mok_88 : x_mok (7, 47, 1, 95) (447, 448, 447) := ⟨by decide +kernel, by decide +kernel, Or.inr trivial, by decide +kernel⟩
theorem x_mok_89 : x_mok (7, 51, 0, 61) (223, 224, 225) := ⟨by decide +kernel, by decide +kernel, by decide +kernel, by decide +kernel⟩
theorem x_mok_90 : x_mok (7, 54, 1, 93) (400, 401, 400) := ⟨by decide +kernel, by decide +kernel, Or.inr trivial, by decide +kernel⟩
theorem x_mok_91 : x_mok (7, 58, 0, 69) (450, 451, 452) := ⟨by decide +kernel, by decide +kernel, by decide +kernel, by decide +kernel⟩
theorem x_mok_92 : x_mok (7, 62, 0, 70) (454, 455, 456) := ⟨by decide +kernel, by decide +kernel, by decide +kernel, by decide +kernel⟩
theorem x_mok_93 : x_mok (7, 66, 0, 74) (459, 460, 461) := ⟨by decide +kernel, by decide +kernel, by decide +kernel, by decide +kernel⟩
theorem x_mok_94 : x_mok (7, 70, 1, 94) (444, 445, 444) := ⟨by decide +kernel, by decide +kernel, Or.inr trivial, by decide +kernel⟩
theorem x_mok_95 : x_mok (7, 75, 0, 62) (235, 236, 237) := ⟨by decide +kernel, by decide +kernel, by decide +kernel, by decide +kernel⟩
theorem x_mok_96 : x_mok (7, 79, 0, 72) (375, 376, 377) := ⟨by decide +kernel, by decide +kernel, by decide +kernel, by decide +kernel⟩
theorem x_mok_97 : x_mok (7, 82, 0, 67) (367, 368, 369) := ⟨by decide +kernel, by decide +kernel, by decide +kernel, by decide +kernel⟩
def x_mls_0 : List (Nat × Nat × Nat × Nat) := [(0, 3, 3, 0), (0, 37, 0, 2), (0, 41, 0, 3), (0, 45, 0, 6), (0, 55, 0, 5), (0, 58, 0, 15), (0, 61, 0, 19), (0, 65, 1, 154), (0, 70, 0, 20), (0, 73, 0, 14), (0, 76, 0, 22), (0, 80, 4, 0), (0, 86, 0, 23), (1, 3, 3, 0), (1, 17, 2, 0), (1, 22, 0, 28), (1, 25, 0, 1), (2, 3, 3, 0), (2, 26, 0, 39), (2, 30, 0, 42)]
theorem x_mls_ok_0 : ∀ q ∈ x_mls_0, ∃ p, x_mok q p := List.forall_mem_cons.mpr ⟨⟨(33, 26, 27), x_mok_0⟩, List.forall_mem_cons.mpr ⟨⟨(202, 204, 2), x_mok_1⟩, List.forall_mem_cons.mpr ⟨⟨(243, 228, 229), x_mok_2⟩, List.forall_mem_cons.mpr ⟨⟨(256, 214, 215), x_mok_3⟩, List.forall_mem_cons.mpr ⟨⟨(281, 282, 283), x_mok_4⟩, List.forall_mem_cons.mpr ⟨⟨(297, 290, 291), x_mok_5⟩, List.forall_mem_cons.mpr ⟨⟨(358, 360, 9), x_mok_6⟩, List.forall_mem_cons.mpr ⟨⟨(362, 311, 362), x_mok_7⟩, List.forall_mem_cons.mpr ⟨⟨(337, 253, 254), x_mok_8⟩, List.forall_mem_cons.mpr ⟨⟨(342, 278, 279), x_mok_9⟩, List.forall_mem_cons.mpr ⟨⟨(338, 339, 340), x_mok_10⟩, List.forall_mem_cons.mpr ⟨⟨(343, 344, 345), x_mok_11⟩, List.forall_mem_cons.mpr ⟨⟨(346, 347, 348), x_mok_12⟩, List.forall_mem_cons.mpr ⟨⟨(75, 26, 27), x_mok_13⟩, List.forall_mem_cons.mpr ⟨⟨(78, 31, 78), x_mok_14⟩, List.forall_mem_cons.mpr ⟨⟨(194, 196, 1), x_mok_15⟩, List.forall_mem_cons.mpr ⟨⟨(198, 199, 200), x_mok_16⟩, List.forall_mem_cons.mpr ⟨⟨(132, 26, 27), x_mok_17⟩, List.forall_mem_cons.mpr ⟨⟨(269, 271, 3), x_mok_18⟩, List.forall_mem_cons.mpr ⟨⟨(298, 300, 5), x_mok_19⟩, fun _ h => absurd h List.not_mem_nil⟩⟩⟩⟩⟩⟩⟩⟩⟩⟩⟩⟩⟩⟩⟩⟩⟩⟩⟩⟩
def x_mls_1 : List (Nat × Nat × Nat × Nat) := [(2, 34, 0, 31), (2, 38, 0, 41), (2, 48, 0, 43), (2, 51, 0, 5), (2, 55, 0, 40), (2, 59, 0, 15), (2, 72, 0, 16), (2, 79, 0, 36), (2, 91, 0, 12), (2, 94, 0, 14), (2, 98, 0, 44), (2, 102, 0, 45), (2, 106, 1, 154), (3, 3, 3, 0), (4, 3, 3, 0), (4, 11, 2, 0), (5, 1, 3, 0), (5, 9, 2, 0), (5, 18, 2, 26), (5, 25, 2, 46)]
theorem x_mls_ok_1 : ∀ q ∈ x_mls_1, ∃ p, x_mok q p := List.forall_mem_cons.mpr ⟨⟨(265, 266, 267), x_mok_20⟩, List.forall_mem_cons.mpr ⟨⟨(316, 318, 8), x_mok_21⟩, List.forall_mem_cons.mpr ⟨⟨(425, 427, 10), x_mok_22⟩, List.forall_mem_cons.mpr ⟨⟨(443, 282, 283), x_mok_23⟩, List.forall_mem_cons.mpr ⟨⟨(285, 287, 4), x_mok_24⟩, List.forall_mem_cons.mpr ⟨⟨(289, 290, 291), x_mok_25⟩, List.forall_mem_cons.mpr ⟨⟨(293, 294, 295), x_mok_26⟩, List.forall_mem_cons.mpr ⟨⟨(439, 440, 441), x_mok_27⟩, List.forall_mem_cons.mpr ⟨⟨(273, 274, 275), x_mok_28⟩, List.forall_mem_cons.mpr ⟨⟨(277, 278, 279), x_mok_29⟩, List.forall_mem_cons.mpr ⟨⟨(302, 304, 6), x_mok_30⟩, List.forall_mem_cons.mpr ⟨⟨(306, 308, 7), x_mok_31⟩, List.forall_mem_cons.mpr ⟨⟨(310, 311, 310), x_mok_32⟩, List.forall_mem_cons.mpr ⟨⟨(92, 26, 27), x_mok_33⟩, List.forall_mem_cons.mpr ⟨⟨(114, 26, 27), x_mok_34⟩, List.forall_mem_cons.mpr ⟨⟨(116, 31, 116), x_mok_35⟩, List.forall_mem_cons.mpr ⟨⟨(25, 26, 27), x_mok_36⟩, List.forall_mem_cons.mpr ⟨⟨(30, 31, 30), x_mok_37⟩, List.forall_mem_cons.mpr ⟨⟨(72, 73, 72), x_mok_38⟩, List.forall_mem_cons.mpr ⟨⟨(89, 90, 89), x_mok_39⟩, fun _ h => absurd h List.not_mem_nil⟩⟩⟩⟩⟩⟩⟩⟩⟩⟩⟩⟩⟩⟩⟩⟩⟩⟩⟩⟩
def x_mls_2 : List (Nat × Nat × Nat × Nat) := [(5, 32, 2, 54), (5, 39, 2, 30), (5, 44, 1, 82), (5, 49, 0, 83), (5, 53, 0, 27), (5, 67, 1, 85), (5, 71, 0, 6), (5, 80, 0, 7), (5, 83, 0, 3), (5, 90, 1, 84), (5, 97, 0, 9), (5, 100, 0, 4), (5, 103, 0, 10), (5, 113, 0, 20), (5, 116, 1, 88), (5, 119, 0, 32), (5, 123, 1, 89), (5, 130, 0, 13), (5, 134, 0, 31), (5, 138, 0, 12)]
theorem x_mls_ok_2 : ∀ q ∈ x_mls_2, ∃ p, x_mok q p := List.forall_mem_cons.mpr ⟨⟨(111, 112, 111), x_mok_40⟩, List.forall_mem_cons.mpr ⟨⟨(129, 130, 129), x_mok_41⟩, List.forall_mem_cons.mpr ⟨⟨(177, 178, 177), x_mok_42⟩, List.forall_mem_cons.mpr ⟨⟨(186, 188, 0), x_mok_43⟩, List.forall_mem_cons.mpr ⟨⟨(190, 191, 192), x_mok_44⟩, List.forall_mem_cons.mpr ⟨⟨(210, 211, 210), x_mok_45⟩, List.forall_mem_cons.mpr ⟨⟨(213, 214, 215), x_mok_46⟩, List.forall_mem_cons.mpr ⟨⟨(219, 220, 221), x_mok_47⟩, List.forall_mem_cons.mpr ⟨⟨(227, 228, 229), x_mok_48⟩, List.forall_mem_cons.mpr ⟨⟨(180, 181, 180), x_mok_49⟩, List.forall_mem_cons.mpr ⟨⟨(231, 232, 233), x_mok_50⟩, List.forall_mem_cons.mpr ⟨⟨(239, 240, 241), x_mok_51⟩, List.forall_mem_cons.mpr ⟨⟨(244, 245, 246), x_mok_52⟩, List.forall_mem_cons.mpr ⟨⟨(252, 253, 254), x_mok_53⟩, List.forall_mem_cons.mpr ⟨⟨(257, 258, 257), x_mok_54⟩, List.forall_mem_cons.mpr ⟨⟨(261, 262, 263), x_mok_55⟩, List.forall_mem_cons.mpr ⟨⟨(320, 321, 320), x_mok_56⟩, List.forall_mem_cons.mpr ⟨⟨(327, 328, 329), x_mok_57⟩, List.forall_mem_cons.mpr ⟨⟨(331, 266, 267), x_mok_58⟩, List.forall_mem_cons.mpr ⟨⟨(332, 274, 275), x_mok_59⟩, fun _ h => absurd h List.not_mem_nil⟩⟩⟩⟩⟩⟩⟩⟩⟩⟩⟩⟩⟩⟩⟩⟩⟩⟩⟩⟩
def x_mls_3 : List (Nat × Nat × Nat × Nat) := [(5, 141, 0, 24), (5, 145, 0, 21), (5, 148, 0, 18), (5, 157, 0, 33), (5, 161, 0, 29), (5, 164, 1, 86), (5, 167, 1, 87), (5, 172, 0, 34), (5, 177, 1, 90), (5, 189, 0, 36), (5, 193, 0, 37), (5, 199, 0, 14), (5, 205, 0, 35), (5, 212, 0, 22), (5, 218, 0, 23), (5, 248, 1, 91), (5, 252, 4, 0), (5, 258, 5, 0), (7, 9, 0, 66), (7, 15, 0, 63)]
theorem x_mls_ok_3 : ∀ q ∈ x_mls_3, ∃ p, x_mok q p := List.forall_mem_cons.mpr ⟨⟨(333, 334, 335), x_mok_60⟩, List.forall_mem_cons.mpr ⟨⟨(350, 351, 352), x_mok_61⟩, List.forall_mem_cons.mpr ⟨⟨(354, 355, 356), x_mok_62⟩, List.forall_mem_cons.mpr ⟨⟨(363, 364, 365), x_mok_63⟩, List.forall_mem_cons.mpr ⟨⟨(371, 372, 373), x_mok_64⟩, List.forall_mem_cons.mpr ⟨⟨(418, 419, 418), x_mok_65⟩, List.forall_mem_cons.mpr ⟨⟨(379, 380, 379), x_mok_66⟩, List.forall_mem_cons.mpr ⟨⟨(421, 422, 423), x_mok_67⟩, List.forall_mem_cons.mpr ⟨⟨(385, 386, 385), x_mok_68⟩, List.forall_mem_cons.mpr ⟨⟨(458, 440, 441), x_mok_69⟩, List.forall_mem_cons.mpr ⟨⟨(435, 436, 437), x_mok_70⟩, List.forall_mem_cons.mpr ⟨⟨(384, 278, 279), x_mok_71⟩, List.forall_mem_cons.mpr ⟨⟨(463, 464, 465), x_mok_72⟩, List.forall_mem_cons.mpr ⟨⟨(411, 339, 340), x_mok_73⟩, List.forall_mem_cons.mpr ⟨⟨(413, 347, 348), x_mok_74⟩, List.forall_mem_cons.mpr ⟨⟨(388, 389, 388), x_mok_75⟩, List.forall_mem_cons.mpr ⟨⟨(391, 344, 345), x_mok_76⟩, List.forall_mem_cons.mpr ⟨⟨(392, 393, 394), x_mok_77⟩, List.forall_mem_cons.mpr ⟨⟨(323, 324, 325), x_mok_78⟩, List.forall_mem_cons.mpr ⟨⟨(248, 249, 250), x_mok_79⟩, fun _ h => absurd h List.not_mem_nil⟩⟩⟩⟩⟩⟩⟩⟩⟩⟩⟩⟩⟩⟩⟩⟩⟩⟩⟩⟩
def x_mls_4 : List (Nat × Nat × Nat × Nat) := [(7, 19, 0, 65), (7, 22, 0, 76), (7, 26, 0, 68), (7, 31, 0, 71), (7, 34, 2, 57), (7, 35, 1, 92), (7, 41, 0, 58), (7, 44, 0, 59), (7, 47, 1, 95), (7, 51, 0, 61), (7, 54, 1, 93), (7, 58, 0, 69), (7, 62, 0, 70), (7, 66, 0, 74), (7, 70, 1, 94), (7, 75, 0, 62), (7, 79, 0, 72), (7, 82, 0, 67)]
theorem x_mls_ok_4 : ∀ q ∈ x_mls_4, ∃ p, x_mok q p := List.forall_mem_cons.mpr ⟨⟨(403, 404, 405), x_mok_80⟩, List.forall_mem_cons.mpr ⟨⟨(407, 408, 409), x_mok_81⟩, List.forall_mem_cons.mpr ⟨⟨(414, 415, 416), x_mok_82⟩, List.forall_mem_cons.mpr ⟨⟨(431, 432, 433), x_mok_83⟩, List.forall_mem_cons.mpr ⟨⟨(22, 23, 22), x_mok_84⟩, List.forall_mem_cons.mpr ⟨⟨(395, 396, 395), x_mok_85⟩, List.forall_mem_cons.mpr ⟨⟨(173, 174, 175), x_mok_86⟩, List.forall_mem_cons.mpr ⟨⟨(206, 207, 208), x_mok_87⟩, List.forall_mem_cons.mpr ⟨⟨(447, 448, 447), x_mok_88⟩, List.forall_mem_cons.mpr ⟨⟨(223, 224, 225), x_mok_89⟩, List.forall_mem_cons.mpr ⟨⟨(400, 401, 400), x_mok_90⟩, List.forall_mem_cons.mpr ⟨⟨(450, 451, 452), x_mok_91⟩, List.forall_mem_cons.mpr ⟨⟨(454, 455, 456), x_mok_92⟩, List.forall_mem_cons.mpr ⟨⟨(459, 460, 461), x_mok_93⟩, List.forall_mem_cons.mpr ⟨⟨(444, 445, 444), x_mok_94⟩, List.forall_mem_cons.mpr ⟨⟨(235, 236, 237), x_mok_95⟩, List.forall_mem_cons.mpr ⟨⟨(375, 376, 377), x_mok_96⟩, List.forall_mem_cons.mpr ⟨⟨(367, 368, 369), x_mok_97⟩, fun _ h => absurd h List.not_mem_nil⟩⟩⟩⟩⟩⟩⟩⟩⟩⟩⟩⟩⟩⟩⟩⟩⟩⟩
theorem x_mls_ok : ∀ q ∈ x_mls, ∃ p, x_mok q p := by
  rw [show x_mls = x_mls_0 ++ (x_mls_1 ++ (x_mls_2 ++ (x_mls_3 ++ (x_mls_4)))) from rfl]
  exact List.forall_mem_append.mpr ⟨x_mls_ok_0, List.forall_mem_append.mpr ⟨x_mls_ok_1, List.forall_mem_append.mpr ⟨x_mls_ok_2, List.forall_mem_append.mpr ⟨x_mls_ok_3, x_mls_ok_4⟩⟩⟩⟩
def x_T (c : Nat) : u_T := match c with | 0 => TX0 | 1 => TX1 | 2 => TX2 | 3 => TX3 | 4 => TX4 | _ => TX5
def x_ty (c : Nat) : Nat → FieldType := match c with | 0 => tyX0 | 1 => tyX1 | 2 => tyX2 | 3 => tyX3 | 4 => tyX4 | _ => tyX5
def x_fzs : List ((Nat × Nat × Nat × Nat) × Nat) := [((0, 9, 0, 2), 39), ((0, 15, 0, 4), 44), ((0, 19, 0, 5), 46), ((0, 22, 0, 6), 48), ((0, 25, 0, 7), 51), ((0, 28, 0, 0), 34), ((0, 31, 0, 1), 37), ((0, 34, 0, 3), 41), ((1, 11, 1, 0), 79), ((1, 18, 1, 1), 80), ((2, 11, 2, 0), 135), ((2, 16, 2, 1), 136), ((2, 20, 2, 2), 137), ((2, 23, 2, 3), 138), ((2, 42, 0, 3), 43), ((2, 62, 0, 0), 36), ((2, 65, 2, 5), 141), ((2, 69, 2, 4), 140), ((2, 75, 0, 6), 50), ((3, 9, 3, 0), 93), ((4, 12, 4, 0), 117), ((5, 10, 5, 0), 157), ((5, 19, 5, 1), 158), ((5, 26, 5, 2), 159), ((5, 33, 5, 3), 160), ((5, 40, 5, 4), 161), ((5, 57, 0, 0), 35), ((5, 61, 0, 1), 38), ((5, 64, 0, 2), 40), ((5, 76, 0, 3), 42), ((5, 93, 0, 6), 49), ((5, 107, 0, 4), 45), ((5, 110, 0, 5), 47), ((5, 151, 1, 1), 81), ((5, 154, 3, 1), 94), ((5, 181, 2, 3), 139), ((5, 185, 2, 5), 142)]
def x_fckB (z : (Nat × Nat × Nat × Nat) × Nat) : Bool := decide (lw_tbl[z.2]? = some (.fieldLink (x_cn z.1.1) z.1.2.1 (x_T z.1.2.2.1 z.1.2.2.2).1 (x_T z.1.2.2.1 z.1.2.2.2).2.1 (x_T z.1.2.2.1 z.1.2.2.2).2.2.1)) && decide (z.1.2.2.1 < 6) && decide (z.1.2.2.2 < x_fn z.1.2.2.1)
theorem x_fok : x_fzs.all x_fckB = true := by decide +kernel
theorem x_fzl : x_fls = x_fzs.map (fun z => z.1) := by decide +kernel
theorem x_cls : ∀ c, c < 6 → vwCl[c]? = some (x_cn c, x_T c, x_fn c) := by
  intro c hc
  rcases (show c = 0 ∨ c = 1 ∨ c = 2 ∨ c = 3 ∨ c = 4 ∨ c = 5 by omega) with rfl | rfl | rfl | rfl | rfl | rfl <;> rfl
theorem x_lays : ∀ c, c < 6 → ∀ w ∈ u_ws (x_cn c) (x_T c) (x_fn c), w ∈ lw_tbl := by decide +kernel
theorem x_tys : ∀ c, c < 6 → ∀ k, k < x_fn c → parseFieldDescriptor (x_T c k).2.2.1 = some (x_ty c k) := by decide +kernel
theorem x_nms : ∀ c, c < 6 → ∀ a, a < x_fn c → ∀ b, b < x_fn c → a ≠ b → (x_T c a).2.1 ≠ (x_T c b).2.1 := by decide +kernel
/-- the kind that the table of fields tells is the kind of its type -/
theorem x_fks : ∀ c, c < 6 → ∀ k, k < x_fn c → ((x_fk c)[k]? = some ((match x_ty c k with | .int => 0 | .long => 1 | _ => 2), (x_T c k).2.2.2)) ∧ (x_ty c k = .int ∨ x_ty c k = .long ∨ (∃ t, x_ty c k = .array t) ∨ (∃ t, x_ty c k = .object t)) ∧ (x_T c k).1 = x_cn c := by
  intro c hc
  rcases (show c = 0 ∨ c = 1 ∨ c = 2 ∨ c = 3 ∨ c = 4 ∨ c = 5 by omega) with rfl | rfl | rfl | rfl | rfl | rfl <;> intro k hk
  · rcases (show k = 0 ∨ k = 1 ∨ k = 2 ∨ k = 3 ∨ k = 4 ∨ k = 5 ∨ k = 6 ∨ k = 7 by exact (by have h : k < 8 := hk; omega)) with rfl | rfl | rfl | rfl | rfl | rfl | rfl | rfl
    · exact ⟨by decide +kernel, Or.inl rfl, by decide +kernel⟩
    · exact ⟨by decide +kernel, Or.inl rfl, by decide +kernel⟩
    · exact ⟨by decide +kernel, Or.inl rfl, by decide +kernel⟩
    · exact ⟨by decide +kernel, Or.inl rfl, by decide +kernel⟩
    · exact ⟨by decide +kernel, Or.inr (Or.inr (Or.inl ⟨_, rfl⟩)), by decide +kernel⟩
    · exact ⟨by decide +kernel, Or.inr (Or.inr (Or.inl ⟨_, rfl⟩)), by decide +kernel⟩
    · exact ⟨by decide +kernel, Or.inr (Or.inr (Or.inl ⟨_, rfl⟩)), by decide +kernel⟩
    · exact ⟨by decide +kernel, Or.inr (Or.inr (Or.inl ⟨_, rfl⟩)), by decide +kernel⟩
  · rcases (show k = 0 ∨ k = 1 by exact (by have h : k < 2 := hk; omega)) with rfl | rfl
    · exact ⟨by decide +kernel, Or.inr (Or.inr (Or.inl ⟨_, rfl⟩)), by decide +kernel⟩
    · exact ⟨by decide +kernel, Or.inl rfl, by decide +kernel⟩
  · rcases (show k = 0 ∨ k = 1 ∨ k = 2 ∨ k = 3 ∨ k = 4 ∨ k = 5 by exact (by have h : k < 6 := hk; omega)) with rfl | rfl | rfl | rfl | rfl | rfl
    · exact ⟨by decide +kernel, Or.inr (Or.inr (Or.inl ⟨_, rfl⟩)), by decide +kernel⟩
    · exact ⟨by decide +kernel, Or.inr (Or.inr (Or.inl ⟨_, rfl⟩)), by decide +kernel⟩
    · exact ⟨by decide +kernel, Or.inr (Or.inr (Or.inl ⟨_, rfl⟩)), by decide +kernel⟩
    · exact ⟨by decide +kernel, Or.inr (Or.inr (Or.inl ⟨_, rfl⟩)), by decide +kernel⟩
    · exact ⟨by decide +kernel, Or.inl rfl, by decide +kernel⟩
    · exact ⟨by decide +kernel, Or.inr (Or.inl rfl), by decide +kernel⟩
  · rcases (show k = 0 ∨ k = 1 ∨ k = 2 ∨ k = 3 ∨ k = 4 ∨ k = 5 by exact (by have h : k < 6 := hk; omega)) with rfl | rfl | rfl | rfl | rfl | rfl
    · exact ⟨by decide +kernel, Or.inr (Or.inr (Or.inl ⟨_, rfl⟩)), by decide +kernel⟩
    · exact ⟨by decide +kernel, Or.inl rfl, by decide +kernel⟩
    · exact ⟨by decide +kernel, Or.inl rfl, by decide +kernel⟩
    · exact ⟨by decide +kernel, Or.inl rfl, by decide +kernel⟩
    · exact ⟨by decide +kernel, Or.inl rfl, by decide +kernel⟩
    · exact ⟨by decide +kernel, Or.inl rfl, by decide +kernel⟩
  · rcases (show k = 0 ∨ k = 1 ∨ k = 2 ∨ k = 3 by exact (by have h : k < 4 := hk; omega)) with rfl | rfl | rfl | rfl
    · exact ⟨by decide +kernel, Or.inr (Or.inr (Or.inr ⟨_, rfl⟩)), by decide +kernel⟩
    · exact ⟨by decide +kernel, Or.inl rfl, by decide +kernel⟩
    · exact ⟨by decide +kernel, Or.inl rfl, by decide +kernel⟩
    · exact ⟨by decide +kernel, Or.inl rfl, by decide +kernel⟩
  · rcases (show k = 0 ∨ k = 1 ∨ k = 2 ∨ k = 3 ∨ k = 4 by exact (by have h : k < 5 := hk; omega)) with rfl | rfl | rfl | rfl | rfl
    · exact ⟨by decide +kernel, Or.inr (Or.inr (Or.inr ⟨_, rfl⟩)), by decide +kernel⟩
    · exact ⟨by decide +kernel, Or.inr (Or.inr (Or.inr ⟨_, rfl⟩)), by decide +kernel⟩
    · exact ⟨by decide +kernel, Or.inr (Or.inr (Or.inr ⟨_, rfl⟩)), by decide +kernel⟩
    · exact ⟨by decide +kernel, Or.inr (Or.inr (Or.inr ⟨_, rfl⟩)), by decide +kernel⟩
    · exact ⟨by decide +kernel, Or.inr (Or.inr (Or.inr ⟨_, rfl⟩)), by decide +kernel⟩

def x_nzs : List ((Nat × Nat × Nat × Nat) × (Nat × Nat × Nat)) := [((7, 10, 5, 0), (20, 21, 12)), ((5, 7, 0, 0), (28, 29, 13)), ((5, 16, 1, 0), (70, 71, 14)), ((1, 9, 0, 0), (76, 29, 13)), ((5, 23, 3, 0), (87, 88, 15)), ((5, 30, 4, 0), (109, 110, 16)), ((4, 9, 0, 0), (115, 29, 13)), ((5, 37, 2, 0), (127, 128, 17))]
def x_nckB (z : (Nat × Nat × Nat × Nat) × (Nat × Nat × Nat)) : Bool := decide (lw_tbl[z.2.1]? = some (.classLink (x_cn z.1.1) z.1.2.1 (x_cn z.1.2.2.1))) && decide (lw_tbl[z.2.2.1]? = some (.instantiable (x_cn z.1.2.2.1) (x_fn z.1.2.2.1))) && decide (lw_tbl[z.2.2.2]? = some (.initialized (x_cn z.1.2.2.1))) && decide (z.1.2.2.1 < 6)
theorem x_nok : x_nzs.all x_nckB = true := by decide +kernel
theorem x_nzl : x_nls = x_nzs.map (fun z => z.1) := by decide +kernel
theorem x_mnaok : lw_tbl[133]? = some (.classLink (x_cn 2) 9 "[[J") ∧ lw_tbl[134]? = some (.arrayOver (.array .long)) ∧ lw_tbl[156]? = some (.arrayClass .long) ∧ lw_tbl[69]? = some (.arrayClass .int) ∧ lw_tbl[108]? = some (.arrayClass .char) ∧ lw_tbl[77]? = some (.arrayOver (.object "WeighingDesign$Design")) := by decide +kernel
def x_czs : List ((Nat × Nat × Value) × Nat) := [((5, 247, .int (-100000)), 183), ((5, 246, .int (100000)), 184), ((5, 48, .int (-2000000001)), 185), ((5, 75, .int (-2000000002)), 217), ((5, 79, .int (-2000000003)), 218), ((5, 235, .int (-2000000004)), 260), ((6, 265, .int (1431655765)), 313), ((6, 266, .int (858993459)), 314), ((6, 267, .int (252645135)), 315), ((5, 170, .long (-2000000001)), 382), ((5, 197, .long (-2000000004)), 383), ((7, 7, .int (15485959)), 398), ((7, 8, .int (2147483647)), 399), ((5, 216, .long (2)), 412), ((5, 175, .long (-2000000002)), 429), ((7, 29, .long (-2000000002)), 430), ((7, 74, .int (-2000000001)), 467), ((7, 78, .int (-2000000003)), 468)]
def x_cckB (z : (Nat × Nat × Value) × Nat) : Bool := match z.1.2.2 with | .int v => decide (lw_tbl[z.2]? = some (.constant (x_cn z.1.1) z.1.2.1 v)) | .long v => decide (lw_tbl[z.2]? = some (.constantLong (x_cn z.1.1) z.1.2.1 v)) | _ => false
theorem x_cok : x_czs.all x_cckB = true := by decide +kernel
theorem x_czl : x_css = x_czs.map (fun z => z.1) := by decide +kernel
theorem m_ini_math : lw_tbl[19]? = some (Cond.initialized "java/lang/Math") := by decide +kernel
def x_gw : List Cond := lw_tbl.filter goodWord
