/-! Methods by number: 0 .. 155, the last one the law. m_nm name, m_bc code, m_ml locals, m_rt what it returns, m_cl class, m_dp depth of calls, m_mc cells made, m_np parameters. -/
def x_cn (c : Nat) : String := (["WeighingDesign$Design", "WeighingDesign$History", "WeighingDesign$Solver", "WeighingDesign$Text", "WeighingDesign$Trial", "WeighingDesign", "WeighingDesignModel", "java/lang/Integer", "WeighingDesignLaw"] : List String).getD c ""
def m_cls : List Nat := [0, 0, 0, 0, 0, 0, 0, 0, 0, 0, 0, 0, 0, 0, 0, 0, 0, 0, 0, 0, 0, 0, 0, 0, 0, 0, 1, 1, 1, 1, 2, 2, 2, 2, 2, 2, 2, 2, 2, 2, 2, 2, 2, 2, 2, 2, 3, 3, 3, 3, 3, 3, 3, 3, 4, 4, 4, 5, 5, 5, 5, 5, 5, 5, 5, 5, 5, 5, 5, 5, 5, 5, 5, 5, 5, 5, 5, 5, 5, 5, 5, 5, 5, 5, 5, 5, 5, 5, 5, 5, 5, 5, 6, 6, 6, 6, 6, 6, 6, 6, 6, 6, 6, 6, 6, 6, 6, 6, 6, 6, 6, 6, 6, 6, 6, 6, 6, 6, 6, 6, 6, 6, 6, 6, 6, 6, 6, 6, 6, 6, 6, 6, 6, 6, 6, 6, 6, 6, 6, 6, 6, 6, 6, 6, 6, 6, 6, 6, 6, 6, 6, 6, 6, 6, 7, 8]
def m_cl (y : Nat) : Nat := m_cls.getD y 99
def m_cn (y : Nat) : String := x_cn (m_cl y)
def m_nds : List (String × String) := [("<init>", "()V"), ("copyFrom", "(LWeighingDesign$Design;)V"), ("copyRow", "(LWeighingDesign$Design;II)V"), ("hasRow", "(I)Z"), ("hasReading", "(II)Z"), ("readingAt", "(II)I"), ("rowWith", "(II)I"), ("appendRow", "(II)I"), ("removeRow", "(I)V"), ("appendReading", "(II)I"), ("removeReading", "(II)V"), ("takeIn", "(III)Z"), ("unknowns", "()I"), ("allTaken", "()I"), ("sumOf", "(I)I"), ("signOf", "(II)I"), ("factorOf", "(II)I"), ("linksToStandard", "(I)I"), ("chainedMasses", "()I"), ("oneLinkOn", "(I)I"), ("swappedWith", "(I)I"), ("swappedPairs", "()I"), ("meansNumerator", "(II)J"), ("meansDenominator", "(II)J"), ("isPanSuspect", "()Z"), ("mostSuspectRow", "()I"), ("<init>", "()V"), ("keep", "(LWeighingDesign$Design;)V"), ("dropOldest", "()V"), ("restore", "(LWeighingDesign$Design;)V"), ("<init>", "()V"), ("isWhole", "(LWeighingDesign$Design;)Z"), ("isNeeded", "(LWeighingDesign$Design;I)Z"), ("neededRows", "(LWeighingDesign$Design;)I"), ("solve", "(LWeighingDesign$Design;)Z"), ("solveWithout", "(LWeighingDesign$Design;II)Z"), ("residualOf", "(LWeighingDesign$Design;II)J"), ("balanceOf", "(LWeighingDesign$Design;I)J"), ("worstPlace", "(LWeighingDesign$Design;)I"), ("gather", "(LWeighingDesign$Design;)V"), ("weigh", "(LWeighingDesign$Design;III)V"), ("breaksWithout", "(LWeighingDesign$Design;I)Z"), ("isRegular", "()Z"), ("solveGathered", "()Z"), ("determinantWith", "(I)J"), ("minorOf", "(II)J"), ("<init>", "()V"), ("append", "(C)V"), ("readRow", "(I)Z"), ("readMasses", "()I"), ("readAmount", "()Z"), ("pass", "(C)Z"), ("here", "()C"), ("isDigit", "(C)Z"), ("<init>", "()V"), ("run", "(LWeighingDesign$Text;LWeighingDesign$Design;)V"), ("enterRow", "(LWeighingDesign$Text;)I"), ("<init>", "()V"), ("set", "(II)I"), ("addRow", "(II)I"), ("dropRow", "(I)I"), ("take", "(II)I"), ("dropReading", "(II)I"), ("row", "(II)I"), ("reading", "(II)I"), ("find", "(II)I"), ("count", "(I)I"), ("undo", "()I"), ("value", "(II)J"), ("pan", "(I)J"), ("residual", "(III)J"), ("balance", "(II)J"), ("mean", "(II)J"), ("worst", "(I)I"), ("without", "(IIII)J"), ("chain", "(I)I"), ("panBy", "(II)J"), ("mostSuspect", "()I"), ("type", "(I)I"), ("clearText", "()I"), ("fault", "(I)I"), ("enter", "()I"), ("isSetting", "(II)Z"), ("settingOf", "(I)I"), ("isAmount", "(I)Z"), ("isPan", "(I)Z"), ("isMass", "(I)Z"), ("isPart", "(I)Z"), ("foundOr", "(I)I"), ("oneIf", "(Z)I"), ("partOf", "(JJI)J"), ("commonDivisor", "(JJ)J"), ("<init>", "()V"), ("in", "(III)Z"), ("isRow", "(I)Z"), ("isReading", "(II)Z"), ("isSet", "(I)Z"), ("isPart", "(I)Z"), ("records", "()V"), ("lowest", "(JJ)V"), ("told", "(JJI)J"), ("sign", "(II)I"), ("unknowns", "()I"), ("factor", "(II)I"), ("isOut", "(II)Z"), ("rest", "(II)J"), ("sums", "()V"), ("determinant", "(I)J"), ("solves", "()Z"), ("residualOf", "(II)J"), ("isNeeded", "(I)Z"), ("set", "(II)I"), ("rowOf", "(II)I"), ("adds", "(II)I"), ("addRow", "(II)I"), ("dropRow", "(I)I"), ("takes", "(II)I"), ("take", "(II)I"), ("dropReading", "(II)I"), ("swapped", "(I)I"), ("row", "(II)I"), ("reading", "(II)I"), ("find", "(II)I"), ("readings", "()I"), ("needed", "()I"), ("pairs", "()I"), ("linked", "()I"), ("count", "(I)I"), ("undo", "()I"), ("value", "(II)J"), ("pan", "(I)J"), ("residual", "(III)J"), ("balance", "(II)J"), ("sumOf", "(I)J"), ("mean", "(II)J"), ("worst", "(I)I"), ("without", "(IIII)J"), ("chains", "()V"), ("chain", "(I)I"), ("together", "(II)J"), ("isSuspect", "()Z"), ("panBy", "(II)J"), ("mostSuspect", "()I"), ("type", "(I)I"), ("clearText", "()I"), ("passes", "(C)Z"), ("readsPan", "()I"), ("readsForm", "()Z"), ("entersOne", "()I"), ("keeps", "()V"), ("restores", "()V"), ("faulty", "()I"), ("fault", "(I)I"), ("enter", "()I"), ("bitCount", "(I)I"), ("law", "([I)Z")]
def m_nd (y : Nat) : String × String := m_nds.getD y ("", "")
def m_nm (y : Nat) : MethodName := ⟨m_cn y, (m_nd y).1, (m_nd y).2⟩
def m_bcs : List ByteArray := [prog_2_method_1_code, prog_2_method_2_code, prog_2_method_3_code, prog_2_method_4_code, prog_2_method_5_code, prog_2_method_6_code, prog_2_method_7_code, prog_2_method_8_code, prog_2_method_9_code, prog_2_method_10_code, prog_2_method_11_code, prog_2_method_12_code, prog_2_method_13_code, prog_2_method_14_code, prog_2_method_15_code, prog_2_method_16_code, prog_2_method_17_code, prog_2_method_18_code, prog_2_method_19_code, prog_2_method_20_code, prog_2_method_21_code, prog_2_method_22_code, prog_2_method_23_code, prog_2_method_24_code, prog_2_method_25_code, prog_2_method_26_code, prog_3_method_1_code, prog_3_method_2_code, prog_3_method_3_code, prog_3_method_4_code, prog_4_method_1_code, prog_4_method_2_code, prog_4_method_3_code, prog_4_method_4_code, prog_4_method_5_code, prog_4_method_6_code, prog_4_method_7_code, prog_4_method_8_code, prog_4_method_9_code, prog_4_method_10_code, prog_4_method_11_code, prog_4_method_12_code, prog_4_method_13_code, prog_4_method_14_code, prog_4_method_15_code, prog_4_method_16_code, prog_5_method_1_code, prog_5_method_2_code, prog_5_method_3_code, prog_5_method_4_code, prog_5_method_5_code, prog_5_method_6_code, prog_5_method_7_code, prog_5_method_8_code, prog_6_method_1_code, prog_6_method_2_code, prog_6_method_3_code, prog_1_method_1_code, prog_1_method_2_code, prog_1_method_3_code, prog_1_method_4_code, prog_1_method_5_code, prog_1_method_6_code, prog_1_method_7_code, prog_1_method_8_code, prog_1_method_9_code, prog_1_method_10_code, prog_1_method_11_code, prog_1_method_12_code, prog_1_method_13_code, prog_1_method_14_code, prog_1_method_15_code, prog_1_method_16_code, prog_1_method_17_code, prog_1_method_18_code, prog_1_method_19_code, prog_1_method_20_code, prog_1_method_21_code, prog_1_method_22_code, prog_1_method_23_code, prog_1_method_24_code, prog_1_method_25_code, prog_1_method_26_code, prog_1_method_27_code, prog_1_method_28_code, prog_1_method_29_code, prog_1_method_30_code, prog_1_method_31_code, prog_1_method_32_code, prog_1_method_33_code, prog_1_method_34_code, prog_1_method_35_code, prog_8_method_1_code, prog_8_method_2_code, prog_8_method_3_code, prog_8_method_4_code, prog_8_method_5_code, prog_8_method_6_code, prog_8_method_7_code, prog_8_method_8_code, prog_8_method_9_code, prog_8_method_10_code, prog_8_method_11_code, prog_8_method_12_code, prog_8_method_13_code, prog_8_method_14_code, prog_8_method_15_code, prog_8_method_16_code, prog_8_method_17_code, prog_8_method_18_code, prog_8_method_19_code, prog_8_method_20_code, prog_8_method_21_code, prog_8_method_22_code, prog_8_method_23_code, prog_8_method_24_code, prog_8_method_25_code, prog_8_method_26_code, prog_8_method_27_code, prog_8_method_28_code, prog_8_method_29_code, prog_8_method_30_code, prog_8_method_31_code, prog_8_method_32_code, prog_8_method_33_code, prog_8_method_34_code, prog_8_method_35_code, prog_8_method_36_code, prog_8_method_37_code, prog_8_method_38_code, prog_8_method_39_code, prog_8_method_40_code, prog_8_method_41_code, prog_8_method_42_code, prog_8_method_43_code, prog_8_method_44_code, prog_8_method_45_code, prog_8_method_46_code, prog_8_method_47_code, prog_8_method_48_code, prog_8_method_49_code, prog_8_method_50_code, prog_8_method_51_code, prog_8_method_52_code, prog_8_method_53_code, prog_8_method_54_code, prog_8_method_55_code, prog_8_method_56_code, prog_8_method_57_code, prog_8_method_58_code, prog_8_method_59_code, prog_8_method_60_code, prog_8_method_61_code, prog_8_method_62_code, prog_9_method_49_code, code]
def m_bc (y : Nat) : ByteArray := m_bcs.getD y .empty
def m_mls : List Nat := [1, 3, 5, 2, 3, 3, 4, 4, 3, 4, 4, 5, 1, 3, 4, 3, 3, 4, 3, 5, 3, 3, 3, 3, 3, 12, 2, 2, 3, 2, 1, 2, 3, 4, 2, 4, 9, 8, 9, 4, 10, 6, 1, 2, 4, 10, 1, 2, 2, 3, 4, 2, 1, 1, 1, 4, 2, 1, 4, 3, 2, 3, 3, 3, 3, 3, 2, 1, 3, 2, 4, 3, 3, 3, 5, 2, 4, 1, 2, 2, 2, 1, 2, 2, 1, 1, 1, 1, 1, 1, 7, 11, 1, 3, 2, 3, 1, 1, 2, 11, 6, 3, 1, 3, 3, 3, 5, 11, 2, 6, 4, 4, 4, 4, 3, 4, 3, 3, 4, 3, 3, 3, 4, 3, 3, 3, 3, 2, 2, 3, 2, 4, 7, 5, 3, 9, 6, 6, 2, 3, 6, 4, 12, 2, 2, 3, 2, 4, 2, 2, 2, 3, 3, 2, 1, 4]
def m_ml (y : Nat) : Nat := m_mls.getD y 0
def m_rts : List (Option FieldType) := [none, none, none, some .boolean, some .boolean, some .int, some .int, some .int, none, some .int, none, some .boolean, some .int, some .int, some .int, some .int, some .int, some .int, some .int, some .int, some .int, some .int, some .long, some .long, some .boolean, some .int, none, none, none, none, none, some .boolean, some .boolean, some .int, some .boolean, some .boolean, some .long, some .long, some .int, none, none, some .boolean, some .boolean, some .boolean, some .long, some .long, none, none, some .boolean, some .int, some .boolean, some .boolean, some .char, some .boolean, none, none, some .int, none, some .int, some .int, some .int, some .int, some .int, some .int, some .int, some .int, some .int, some .int, some .long, some .long, some .long, some .long, some .long, some .int, some .long, some .int, some .long, some .int, some .int, some .int, some .int, some .int, some .boolean, some .int, some .boolean, some .boolean, some .boolean, some .boolean, some .int, some .int, some .long, some .long, none, some .boolean, some .boolean, some .boolean, some .boolean, some .boolean, none, none, some .long, some .int, some .int, some .int, some .boolean, some .long, none, some .long, some .boolean, some .long, some .boolean, some .int, some .int, some .int, some .int, some .int, some .int, some .int, some .int, some .int, some .int, some .int, some .int, some .int, some .int, some .int, some .int, some .int, some .int, some .long, some .long, some .long, some .long, some .long, some .long, some .int, some .long, none, some .int, some .long, some .boolean, some .long, some .int, some .int, some .int, some .boolean, some .int, some .boolean, some .int, none, none, some .int, some .int, some .int, some .int, some .boolean]
def m_rt (y : Nat) : Option FieldType := m_rts.getD y none
def m_dps : List Nat := [1, 1, 0, 0, 1, 0, 0, 0, 1, 0, 0, 1, 0, 0, 1, 0, 1, 1, 1, 0, 1, 2, 2, 0, 3, 3, 2, 2, 0, 2, 1, 4, 5, 5, 4, 4, 2, 3, 3, 3, 2, 4, 3, 3, 2, 1, 1, 0, 3, 2, 2, 1, 0, 0, 2, 5, 4, 3, 3, 3, 3, 3, 3, 6, 2, 1, 6, 3, 5, 5, 5, 5, 3, 5, 5, 2, 3, 4, 1, 0, 6, 6, 1, 0, 0, 0, 0, 0, 0, 0, 2, 1, 1, 0, 1, 2, 1, 1, 0, 0, 1, 0, 0, 1, 0, 1, 2, 1, 3, 2, 4, 1, 0, 0, 2, 2, 0, 2, 3, 1, 5, 3, 2, 0, 5, 2, 1, 6, 0, 4, 4, 4, 4, 0, 2, 4, 4, 0, 1, 1, 2, 2, 2, 1, 0, 0, 1, 2, 3, 0, 0, 4, 5, 5, 0, 9]
def m_dp (y : Nat) : Nat := m_dps.getD y 0
def m_mcs : List Nat := [4, 0, 0, 0, 0, 0, 0, 0, 0, 0, 0, 0, 0, 0, 0, 0, 0, 0, 0, 0, 0, 0, 0, 0, 0, 0, 26, 0, 0, 0, 9, 0, 0, 0, 0, 0, 0, 0, 0, 0, 0, 0, 0, 0, 0, 0, 1, 0, 0, 0, 0, 0, 0, 0, 5, 0, 0, 50, 0, 0, 0, 0, 0, 0, 0, 0, 0, 0, 0, 0, 0, 0, 0, 0, 0, 0, 0, 0, 0, 0, 0, 0, 0, 0, 0, 0, 0, 0, 0, 0, 0, 0, 8, 0, 0, 0, 0, 0, 0, 0, 0, 0, 0, 0, 0, 0, 0, 0, 0, 0, 0, 0, 0, 0, 0, 0, 0, 0, 0, 0, 0, 0, 0, 0, 0, 0, 0, 0, 0, 0, 0, 0, 0, 0, 0, 0, 0, 0, 0, 0, 0, 0, 0, 0, 0, 0, 0, 0, 0, 0, 0, 0, 0, 0, 0, 600]
def m_mc (y : Nat) : Nat := m_mcs.getD y 0
def m_nps : List Nat := [0, 1, 3, 1, 2, 2, 2, 2, 1, 2, 2, 3, 0, 0, 1, 2, 2, 1, 0, 1, 1, 0, 2, 2, 0, 0, 0, 1, 0, 1, 0, 1, 2, 1, 1, 3, 3, 2, 1, 1, 4, 2, 0, 0, 1, 2, 0, 1, 1, 0, 0, 1, 0, 1, 0, 2, 1, 0, 2, 2, 1, 2, 2, 2, 2, 2, 1, 0, 2, 1, 3, 2, 2, 1, 4, 1, 2, 0, 1, 0, 1, 0, 2, 1, 1, 1, 1, 1, 1, 1, 3, 2, 0, 3, 1, 2, 1, 1, 0, 2, 3, 2, 0, 2, 2, 2, 0, 1, 0, 2, 1, 2, 2, 2, 2, 1, 2, 2, 2, 1, 2, 2, 2, 0, 0, 0, 0, 1, 0, 2, 1, 3, 2, 1, 2, 1, 4, 0, 1, 2, 0, 2, 0, 1, 0, 1, 0, 0, 0, 0, 0, 0, 1, 0, 1, 1]
def m_np (y : Nat) : Nat := m_nps.getD y 0
def m_law : Nat := 155
def m_in (y : Nat) : Bool := (m_nd y).1 == "<init>"
/-- room of a method: frames, cells, slots, locals -/
def m_rm (y : Nat) : Room := if y = m_law then room_1 else { frames := m_dp y, cells := m_mc y, slots := 600 * m_mc y, locals := 36 * m_dp y }
/-- links: (class, pool index, kind, method); kind 0 virtual, 1 static, 2 constructor, 3 Object(), 4 Math.abs, 5 Math.max (longs), 6 static of a nest mate -/
def x_mls : List (Nat × Nat × Nat × Nat) := [(0, 3, 3, 0), (0, 37, 0, 2), (0, 41, 0, 3), (0, 45, 0, 6), (0, 49, 0, 7), (0, 52, 0, 9), (0, 55, 0, 5), (0, 58, 0, 15), (0, 61, 0, 19), (0, 65, 1, 154), (0, 70, 0, 20), (0, 73, 0, 14), (0, 76, 0, 22), (0, 80, 4, 0), (0, 86, 0, 23), (1, 3, 3, 0), (1, 17, 2, 0), (1, 22, 0, 28), (1, 25, 0, 1), (2, 3, 3, 0), (2, 26, 0, 39), (2, 30, 0, 42), (2, 34, 0, 31), (2, 38, 0, 41), (2, 48, 0, 43), (2, 51, 0, 5), (2, 55, 0, 40), (2, 59, 0, 15), (2, 72, 0, 16), (2, 79, 0, 36), (2, 85, 4, 0), (2, 91, 0, 12), (2, 94, 0, 14), (2, 98, 0, 44), (2, 102, 0, 45), (2, 106, 1, 154), (3, 3, 3, 0), (3, 22, 0, 49), (3, 29, 0, 51), (3, 36, 0, 50), (3, 40, 0, 52), (3, 44, 1, 53), (4, 3, 3, 0), (4, 11, 2, 0), (4, 18, 0, 1), (4, 37, 0, 56), (4, 44, 0, 48), (4, 57, 6, 84), (4, 60, 0, 11), (5, 1, 3, 0), (5, 9, 2, 0), (5, 18, 2, 26), (5, 25, 2, 46), (5, 32, 2, 54), (5, 39, 2, 30), (5, 44, 1, 82), (5, 49, 0, 83), (5, 53, 0, 27), (5, 67, 1, 85), (5, 71, 0, 6), (5, 80, 0, 7), (5, 83, 0, 3), (5, 86, 0, 8), (5, 90, 1, 84), (5, 97, 0, 9), (5, 100, 0, 4), (5, 103, 0, 10), (5, 113, 0, 20), (5, 116, 1, 88), (5, 119, 0, 32), (5, 123, 1, 89), (5, 127, 0, 5), (5, 130, 0, 13), (5, 134, 0, 31), (5, 138, 0, 12), (5, 141, 0, 24), (5, 145, 0, 21), (5, 148, 0, 18), (5, 157, 0, 33), (5, 161, 0, 29), (5, 164, 1, 86), (5, 167, 1, 87), (5, 172, 0, 34), (5, 177, 1, 90), (5, 189, 0, 36), (5, 193, 0, 37), (5, 199, 0, 14), (5, 202, 0, 38), (5, 205, 0, 35), (5, 209, 0, 17), (5, 212, 0, 22), (5, 218, 0, 23), (5, 221, 0, 25), (5, 224, 0, 47), (5, 228, 0, 55), (5, 240, 0, 1), (5, 248, 1, 91), (5, 252, 4, 0), (5, 258, 5, 0), (6, 1, 3, 0), (6, 43, 1, 93), (6, 47, 0, 94), (6, 61, 0, 99), (6, 65, 0, 101), (6, 69, 0, 102), (6, 73, 0, 104), (6, 77, 0, 103), (6, 80, 0, 105), (6, 84, 0, 106), (6, 87, 0, 107), (6, 94, 0, 108), (6, 101, 0, 98), (6, 104, 1, 96), (6, 107, 0, 112), (6, 112, 0, 113), (6, 115, 0, 116), (6, 118, 0, 95), (6, 121, 0, 119), (6, 126, 0, 110), (6, 129, 0, 137), (6, 132, 0, 123), (6, 135, 0, 140), (6, 138, 0, 125), (6, 141, 0, 126), (6, 147, 0, 124), (6, 150, 1, 97), (6, 157, 0, 100), (6, 161, 0, 109), (6, 166, 0, 133), (6, 171, 0, 139), (6, 179, 0, 146), (6, 185, 0, 145), (6, 195, 0, 147), (6, 198, 0, 149), (6, 201, 0, 148), (6, 207, 0, 150), (6, 210, 0, 151), (8, 9, 2, 57), (8, 12, 2, 92), (8, 13, 0, 58), (8, 17, 0, 111), (8, 18, 0, 59), (8, 21, 0, 114), (8, 22, 0, 60), (8, 26, 0, 115), (8, 27, 0, 61), (8, 30, 0, 117), (8, 31, 0, 62), (8, 34, 0, 118), (8, 35, 0, 63), (8, 38, 0, 120), (8, 39, 0, 64), (8, 42, 0, 121), (8, 43, 0, 65), (8, 46, 0, 122), (8, 47, 0, 66), (8, 50, 0, 127), (8, 51, 0, 67), (8, 55, 0, 128), (8, 56, 0, 68), (8, 60, 0, 129), (8, 61, 0, 69), (8, 65, 0, 130), (8, 66, 0, 70), (8, 70, 0, 131), (8, 71, 0, 71), (8, 74, 0, 132), (8, 75, 0, 72), (8, 78, 0, 134), (8, 79, 0, 73), (8, 82, 0, 135), (8, 83, 0, 74), (8, 87, 0, 136), (8, 88, 0, 75), (8, 91, 0, 138), (8, 92, 0, 76), (8, 95, 0, 141), (8, 96, 0, 77), (8, 99, 0, 142), (8, 100, 0, 78), (8, 103, 0, 143), (8, 104, 0, 79), (8, 107, 0, 144), (8, 108, 0, 80), (8, 111, 0, 152), (8, 112, 0, 81), (8, 115, 0, 153)]
def x_fls : List (Nat × Nat × Nat × Nat) := [(0, 9, 0, 2), (0, 15, 0, 4), (0, 19, 0, 5), (0, 22, 0, 6), (0, 25, 0, 7), (0, 28, 0, 0), (0, 31, 0, 1), (0, 34, 0, 3), (1, 11, 1, 0), (1, 18, 1, 1), (2, 11, 2, 0), (2, 16, 2, 1), (2, 20, 2, 2), (2, 23, 2, 3), (2, 42, 0, 3), (2, 62, 0, 0), (2, 65, 2, 5), (2, 69, 2, 4), (2, 75, 0, 6), (3, 9, 3, 0), (3, 15, 3, 1), (3, 19, 3, 5), (3, 26, 3, 2), (3, 33, 3, 3), (3, 47, 3, 4), (4, 12, 4, 0), (4, 22, 4, 1), (4, 26, 4, 2), (4, 29, 4, 3), (4, 32, 3, 1), (4, 41, 3, 5), (4, 48, 3, 2), (4, 51, 3, 3), (4, 54, 3, 4), (5, 10, 5, 0), (5, 19, 5, 1), (5, 26, 5, 2), (5, 33, 5, 3), (5, 40, 5, 4), (5, 57, 0, 0), (5, 61, 0, 1), (5, 64, 0, 2), (5, 76, 0, 3), (5, 93, 0, 6), (5, 107, 0, 4), (5, 110, 0, 5), (5, 151, 1, 1), (5, 154, 3, 1), (5, 181, 2, 3), (5, 185, 2, 5), (5, 232, 4, 3), (5, 236, 4, 2), (5, 239, 4, 0), (5, 243, 4, 1), (6, 7, 6, 0), (6, 13, 6, 1), (6, 16, 6, 3), (6, 19, 6, 4), (6, 23, 6, 11), (6, 27, 6, 14), (6, 30, 6, 15), (6, 33, 6, 17), (6, 36, 6, 12), (6, 40, 6, 13), (6, 51, 6, 2), (6, 54, 6, 18), (6, 58, 6, 19), (6, 91, 6, 16), (6, 144, 6, 5), (6, 176, 6, 6), (6, 182, 6, 7), (6, 189, 6, 8), (6, 192, 6, 9), (6, 204, 6, 10)]
def x_find (l : List (Nat × Nat × Nat × Nat)) (c i : Nat) : Option (Nat × Nat) := match l with
  | [] => none
  | (c1, i1, a, b) :: r => if c1 = c ∧ i1 = i then some (a, b) else x_find r c i
def x_ml (c i : Nat) : Option (Nat × Nat) := x_find x_mls c i
def x_fl (c i : Nat) : Option (Nat × Nat) := x_find x_fls c i
/-- class links: (class, pool index, class, 0) -/
def x_nls : List (Nat × Nat × Nat × Nat) := [(8, 7, 5, 0), (5, 7, 0, 0), (5, 16, 1, 0), (1, 9, 0, 0), (5, 23, 3, 0), (5, 30, 4, 0), (4, 9, 0, 0), (5, 37, 2, 0), (8, 10, 6, 0)]
def x_nl (c i : Nat) : Option (Nat × Nat) := x_find x_nls c i
def x_mna (c i : Nat) : Bool := c == 2 && i == 9
def x_css : List (Nat × Nat × Value) := [(5, 247, .int (-100000)), (5, 246, .int (100000)), (5, 48, .int (-2000000001)), (5, 75, .int (-2000000002)), (5, 79, .int (-2000000003)), (5, 235, .int (-2000000004)), (7, 265, .int (1431655765)), (7, 266, .int (858993459)), (7, 267, .int (252645135)), (5, 170, .long (-2000000001)), (5, 175, .long (-2000000002)), (5, 197, .long (-2000000004)), (2, 83, .long (-1)), (5, 216, .long (2)), (6, 98, .int (-100000)), (6, 99, .int (100000)), (6, 100, .int (-2000000001)), (6, 110, .int (-2000000002)), (6, 111, .int (-2000000003)), (6, 125, .int (-2000000004)), (6, 153, .long (-2000000001)), (6, 155, .long (-2000000002)), (6, 164, .long (-2000000004)), (6, 169, .long (-1)), (6, 174, .long (2))]
def x_cfind (l : List (Nat × Nat × Value)) (c i : Nat) : Option Value := match l with
  | [] => none
  | (c1, i1, v) :: r => if c1 = c ∧ i1 = i then some v else x_cfind r c i
def x_cs (c i : Nat) : Option Value := x_cfind x_css c i
/-- of a class: the kinds of its fields (0 int, 1 long, 2 reference), final or not -/
def x_fk (c : Nat) : List (Nat × Bool) := ([[(0, false), (0, false), (0, false), (0, false), (2, true), (2, true), (2, true), (2, true)], [(2, true), (0, false)], [(2, true), (2, true), (2, true), (2, true), (0, false), (1, false)], [(2, true), (0, false), (0, false), (0, false), (0, false), (0, false)], [(2, true), (0, false), (0, false), (0, false)], [(2, true), (2, true), (2, true), (2, true), (2, true)], [(2, true), (2, true), (0, false), (2, true), (2, true), (0, false), (0, false), (0, false), (0, false), (0, false), (0, false), (2, true), (0, false), (0, false), (2, true), (2, true), (1, false), (2, true), (1, false), (1, false)]] : List (List (Nat × Bool))).getD c []
def x_df (c : Nat) : List Value := (x_fk c).map (fun q => match q.1 with | 0 => .int 0 | 1 => .long 0 | _ => .null)
def x_fn (c : Nat) : Nat := (x_fk c).length
/-! the words of the tables that the links stand on -/
theorem x_w {l : List Cond} {i : Nat} {c : Cond} (h : l[i]? = some c) : c ∈ l := List.mem_of_getElem? h
set_option maxRecDepth 100000 in
theorem m_code_0 : lw_tbl[72]? = some (Cond.code (m_nm 0) (m_bc 0) (m_ml 0) (m_rt 0)) := rfl
set_option maxRecDepth 100000 in
theorem m_code_1 : lw_tbl[258]? = some (Cond.code (m_nm 1) (m_bc 1) (m_ml 1) (m_rt 1)) := rfl
set_option maxRecDepth 100000 in
theorem m_code_2 : lw_tbl[262]? = some (Cond.code (m_nm 2) (m_bc 2) (m_ml 2) (m_rt 2)) := rfl
set_option maxRecDepth 100000 in
theorem m_code_3 : lw_tbl[287]? = some (Cond.code (m_nm 3) (m_bc 3) (m_ml 3) (m_rt 3)) := rfl
set_option maxRecDepth 100000 in
theorem m_code_4 : lw_tbl[307]? = some (Cond.code (m_nm 4) (m_bc 4) (m_ml 4) (m_rt 4)) := rfl
set_option maxRecDepth 100000 in
theorem m_code_5 : lw_tbl[349]? = some (Cond.code (m_nm 5) (m_bc 5) (m_ml 5) (m_rt 5)) := rfl
set_option maxRecDepth 100000 in
theorem m_code_6 : lw_tbl[273]? = some (Cond.code (m_nm 6) (m_bc 6) (m_ml 6) (m_rt 6)) := rfl
set_option maxRecDepth 100000 in
theorem m_code_7 : lw_tbl[279]? = some (Cond.code (m_nm 7) (m_bc 7) (m_ml 7) (m_rt 7)) := rfl
set_option maxRecDepth 100000 in
theorem m_code_8 : lw_tbl[291]? = some (Cond.code (m_nm 8) (m_bc 8) (m_ml 8) (m_rt 8)) := rfl
set_option maxRecDepth 100000 in
theorem m_code_9 : lw_tbl[299]? = some (Cond.code (m_nm 9) (m_bc 9) (m_ml 9) (m_rt 9)) := rfl
set_option maxRecDepth 100000 in
theorem m_code_10 : lw_tbl[312]? = some (Cond.code (m_nm 10) (m_bc 10) (m_ml 10) (m_rt 10)) := rfl
set_option maxRecDepth 100000 in
theorem m_code_11 : lw_tbl[600]? = some (Cond.code (m_nm 11) (m_bc 11) (m_ml 11) (m_rt 11)) := rfl
set_option maxRecDepth 100000 in
theorem m_code_12 : lw_tbl[341]? = some (Cond.code (m_nm 12) (m_bc 12) (m_ml 12) (m_rt 12)) := rfl
set_option maxRecDepth 100000 in
theorem m_code_13 : lw_tbl[404]? = some (Cond.code (m_nm 13) (m_bc 13) (m_ml 13) (m_rt 13)) := rfl
set_option maxRecDepth 100000 in
theorem m_code_14 : lw_tbl[345]? = some (Cond.code (m_nm 14) (m_bc 14) (m_ml 14) (m_rt 14)) := rfl
set_option maxRecDepth 100000 in
theorem m_code_15 : lw_tbl[357]? = some (Cond.code (m_nm 15) (m_bc 15) (m_ml 15) (m_rt 15)) := rfl
set_option maxRecDepth 100000 in
theorem m_code_16 : lw_tbl[361]? = some (Cond.code (m_nm 16) (m_bc 16) (m_ml 16) (m_rt 16)) := rfl
set_option maxRecDepth 100000 in
theorem m_code_17 : lw_tbl[532]? = some (Cond.code (m_nm 17) (m_bc 17) (m_ml 17) (m_rt 17)) := rfl
set_option maxRecDepth 100000 in
theorem m_code_18 : lw_tbl[431]? = some (Cond.code (m_nm 18) (m_bc 18) (m_ml 18) (m_rt 18)) := rfl
set_option maxRecDepth 100000 in
theorem m_code_19 : lw_tbl[435]? = some (Cond.code (m_nm 19) (m_bc 19) (m_ml 19) (m_rt 19)) := rfl
set_option maxRecDepth 100000 in
theorem m_code_20 : lw_tbl[320]? = some (Cond.code (m_nm 20) (m_bc 20) (m_ml 20) (m_rt 20)) := rfl
set_option maxRecDepth 100000 in
theorem m_code_21 : lw_tbl[427]? = some (Cond.code (m_nm 21) (m_bc 21) (m_ml 21) (m_rt 21)) := rfl
set_option maxRecDepth 100000 in
theorem m_code_22 : lw_tbl[415]? = some (Cond.code (m_nm 22) (m_bc 22) (m_ml 22) (m_rt 22)) := rfl
set_option maxRecDepth 100000 in
theorem m_code_23 : lw_tbl[423]? = some (Cond.code (m_nm 23) (m_bc 23) (m_ml 23) (m_rt 23)) := rfl
set_option maxRecDepth 100000 in
theorem m_code_24 : lw_tbl[410]? = some (Cond.code (m_nm 24) (m_bc 24) (m_ml 24) (m_rt 24)) := rfl
set_option maxRecDepth 100000 in
theorem m_code_25 : lw_tbl[547]? = some (Cond.code (m_nm 25) (m_bc 25) (m_ml 25) (m_rt 25)) := rfl
set_option maxRecDepth 100000 in
theorem m_code_26 : lw_tbl[114]? = some (Cond.code (m_nm 26) (m_bc 26) (m_ml 26) (m_rt 26)) := rfl
set_option maxRecDepth 100000 in
theorem m_code_27 : lw_tbl[250]? = some (Cond.code (m_nm 27) (m_bc 27) (m_ml 27) (m_rt 27)) := rfl
set_option maxRecDepth 100000 in
theorem m_code_28 : lw_tbl[254]? = some (Cond.code (m_nm 28) (m_bc 28) (m_ml 28) (m_rt 28)) := rfl
set_option maxRecDepth 100000 in
theorem m_code_29 : lw_tbl[448]? = some (Cond.code (m_nm 29) (m_bc 29) (m_ml 29) (m_rt 29)) := rfl
set_option maxRecDepth 100000 in
theorem m_code_30 : lw_tbl[188]? = some (Cond.code (m_nm 30) (m_bc 30) (m_ml 30) (m_rt 30)) := rfl
set_option maxRecDepth 100000 in
theorem m_code_31 : lw_tbl[333]? = some (Cond.code (m_nm 31) (m_bc 31) (m_ml 31) (m_rt 31)) := rfl
set_option maxRecDepth 100000 in
theorem m_code_32 : lw_tbl[329]? = some (Cond.code (m_nm 32) (m_bc 32) (m_ml 32) (m_rt 32)) := rfl
set_option maxRecDepth 100000 in
theorem m_code_33 : lw_tbl[440]? = some (Cond.code (m_nm 33) (m_bc 33) (m_ml 33) (m_rt 33)) := rfl
set_option maxRecDepth 100000 in
theorem m_code_34 : lw_tbl[463]? = some (Cond.code (m_nm 34) (m_bc 34) (m_ml 34) (m_rt 34)) := rfl
set_option maxRecDepth 100000 in
theorem m_code_35 : lw_tbl[524]? = some (Cond.code (m_nm 35) (m_bc 35) (m_ml 35) (m_rt 35)) := rfl
set_option maxRecDepth 100000 in
theorem m_code_36 : lw_tbl[490]? = some (Cond.code (m_nm 36) (m_bc 36) (m_ml 36) (m_rt 36)) := rfl
set_option maxRecDepth 100000 in
theorem m_code_37 : lw_tbl[499]? = some (Cond.code (m_nm 37) (m_bc 37) (m_ml 37) (m_rt 37)) := rfl
set_option maxRecDepth 100000 in
theorem m_code_38 : lw_tbl[514]? = some (Cond.code (m_nm 38) (m_bc 38) (m_ml 38) (m_rt 38)) := rfl
set_option maxRecDepth 100000 in
theorem m_code_39 : lw_tbl[337]? = some (Cond.code (m_nm 39) (m_bc 39) (m_ml 39) (m_rt 39)) := rfl
set_option maxRecDepth 100000 in
theorem m_code_40 : lw_tbl[353]? = some (Cond.code (m_nm 40) (m_bc 40) (m_ml 40) (m_rt 40)) := rfl
set_option maxRecDepth 100000 in
theorem m_code_41 : lw_tbl[384]? = some (Cond.code (m_nm 41) (m_bc 41) (m_ml 41) (m_rt 41)) := rfl
set_option maxRecDepth 100000 in
theorem m_code_42 : lw_tbl[366]? = some (Cond.code (m_nm 42) (m_bc 42) (m_ml 42) (m_rt 42)) := rfl
set_option maxRecDepth 100000 in
theorem m_code_43 : lw_tbl[467]? = some (Cond.code (m_nm 43) (m_bc 43) (m_ml 43) (m_rt 43)) := rfl
set_option maxRecDepth 100000 in
theorem m_code_44 : lw_tbl[370]? = some (Cond.code (m_nm 44) (m_bc 44) (m_ml 44) (m_rt 44)) := rfl
set_option maxRecDepth 100000 in
theorem m_code_45 : lw_tbl[374]? = some (Cond.code (m_nm 45) (m_bc 45) (m_ml 45) (m_rt 45)) := rfl
set_option maxRecDepth 100000 in
theorem m_code_46 : lw_tbl[131]? = some (Cond.code (m_nm 46) (m_bc 46) (m_ml 46) (m_rt 46)) := rfl
set_option maxRecDepth 100000 in
theorem m_code_47 : lw_tbl[555]? = some (Cond.code (m_nm 47) (m_bc 47) (m_ml 47) (m_rt 47)) := rfl
set_option maxRecDepth 100000 in
theorem m_code_48 : lw_tbl[576]? = some (Cond.code (m_nm 48) (m_bc 48) (m_ml 48) (m_rt 48)) := rfl
set_option maxRecDepth 100000 in
theorem m_code_49 : lw_tbl[580]? = some (Cond.code (m_nm 49) (m_bc 49) (m_ml 49) (m_rt 49)) := rfl
set_option maxRecDepth 100000 in
theorem m_code_50 : lw_tbl[592]? = some (Cond.code (m_nm 50) (m_bc 50) (m_ml 50) (m_rt 50)) := rfl
set_option maxRecDepth 100000 in
theorem m_code_51 : lw_tbl[584]? = some (Cond.code (m_nm 51) (m_bc 51) (m_ml 51) (m_rt 51)) := rfl
set_option maxRecDepth 100000 in
theorem m_code_52 : lw_tbl[588]? = some (Cond.code (m_nm 52) (m_bc 52) (m_ml 52) (m_rt 52)) := rfl
set_option maxRecDepth 100000 in
theorem m_code_53 : lw_tbl[595]? = some (Cond.code (m_nm 53) (m_bc 53) (m_ml 53) (m_rt 53)) := rfl
set_option maxRecDepth 100000 in
theorem m_code_54 : lw_tbl[163]? = some (Cond.code (m_nm 54) (m_bc 54) (m_ml 54) (m_rt 54)) := rfl
set_option maxRecDepth 100000 in
theorem m_code_55 : lw_tbl[567]? = some (Cond.code (m_nm 55) (m_bc 55) (m_ml 55) (m_rt 55)) := rfl
set_option maxRecDepth 100000 in
theorem m_code_56 : lw_tbl[572]? = some (Cond.code (m_nm 56) (m_bc 56) (m_ml 56) (m_rt 56)) := rfl
set_option maxRecDepth 100000 in
theorem m_code_57 : lw_tbl[64]? = some (Cond.code (m_nm 57) (m_bc 57) (m_ml 57) (m_rt 57)) := rfl
set_option maxRecDepth 100000 in
theorem m_code_58 : lw_tbl[233]? = some (Cond.code (m_nm 58) (m_bc 58) (m_ml 58) (m_rt 58)) := rfl
set_option maxRecDepth 100000 in
theorem m_code_59 : lw_tbl[266]? = some (Cond.code (m_nm 59) (m_bc 59) (m_ml 59) (m_rt 59)) := rfl
set_option maxRecDepth 100000 in
theorem m_code_60 : lw_tbl[283]? = some (Cond.code (m_nm 60) (m_bc 60) (m_ml 60) (m_rt 60)) := rfl
set_option maxRecDepth 100000 in
theorem m_code_61 : lw_tbl[295]? = some (Cond.code (m_nm 61) (m_bc 61) (m_ml 61) (m_rt 61)) := rfl
set_option maxRecDepth 100000 in
theorem m_code_62 : lw_tbl[303]? = some (Cond.code (m_nm 62) (m_bc 62) (m_ml 62) (m_rt 62)) := rfl
set_option maxRecDepth 100000 in
theorem m_code_63 : lw_tbl[316]? = some (Cond.code (m_nm 63) (m_bc 63) (m_ml 63) (m_rt 63)) := rfl
set_option maxRecDepth 100000 in
theorem m_code_64 : lw_tbl[391]? = some (Cond.code (m_nm 64) (m_bc 64) (m_ml 64) (m_rt 64)) := rfl
set_option maxRecDepth 100000 in
theorem m_code_65 : lw_tbl[396]? = some (Cond.code (m_nm 65) (m_bc 65) (m_ml 65) (m_rt 65)) := rfl
set_option maxRecDepth 100000 in
theorem m_code_66 : lw_tbl[400]? = some (Cond.code (m_nm 66) (m_bc 66) (m_ml 66) (m_rt 66)) := rfl
set_option maxRecDepth 100000 in
theorem m_code_67 : lw_tbl[444]? = some (Cond.code (m_nm 67) (m_bc 67) (m_ml 67) (m_rt 67)) := rfl
set_option maxRecDepth 100000 in
theorem m_code_68 : lw_tbl[452]? = some (Cond.code (m_nm 68) (m_bc 68) (m_ml 68) (m_rt 68)) := rfl
set_option maxRecDepth 100000 in
theorem m_code_69 : lw_tbl[482]? = some (Cond.code (m_nm 69) (m_bc 69) (m_ml 69) (m_rt 69)) := rfl
set_option maxRecDepth 100000 in
theorem m_code_70 : lw_tbl[486]? = some (Cond.code (m_nm 70) (m_bc 70) (m_ml 70) (m_rt 70)) := rfl
set_option maxRecDepth 100000 in
theorem m_code_71 : lw_tbl[495]? = some (Cond.code (m_nm 71) (m_bc 71) (m_ml 71) (m_rt 71)) := rfl
set_option maxRecDepth 100000 in
theorem m_code_72 : lw_tbl[504]? = some (Cond.code (m_nm 72) (m_bc 72) (m_ml 72) (m_rt 72)) := rfl
set_option maxRecDepth 100000 in
theorem m_code_73 : lw_tbl[510]? = some (Cond.code (m_nm 73) (m_bc 73) (m_ml 73) (m_rt 73)) := rfl
set_option maxRecDepth 100000 in
theorem m_code_74 : lw_tbl[520]? = some (Cond.code (m_nm 74) (m_bc 74) (m_ml 74) (m_rt 74)) := rfl
set_option maxRecDepth 100000 in
theorem m_code_75 : lw_tbl[528]? = some (Cond.code (m_nm 75) (m_bc 75) (m_ml 75) (m_rt 75)) := rfl
set_option maxRecDepth 100000 in
theorem m_code_76 : lw_tbl[536]? = some (Cond.code (m_nm 76) (m_bc 76) (m_ml 76) (m_rt 76)) := rfl
set_option maxRecDepth 100000 in
theorem m_code_77 : lw_tbl[543]? = some (Cond.code (m_nm 77) (m_bc 77) (m_ml 77) (m_rt 77)) := rfl
set_option maxRecDepth 100000 in
theorem m_code_78 : lw_tbl[551]? = some (Cond.code (m_nm 78) (m_bc 78) (m_ml 78) (m_rt 78)) := rfl
set_option maxRecDepth 100000 in
theorem m_code_79 : lw_tbl[559]? = some (Cond.code (m_nm 79) (m_bc 79) (m_ml 79) (m_rt 79)) := rfl
set_option maxRecDepth 100000 in
theorem m_code_80 : lw_tbl[563]? = some (Cond.code (m_nm 80) (m_bc 80) (m_ml 80) (m_rt 80)) := rfl
set_option maxRecDepth 100000 in
theorem m_code_81 : lw_tbl[606]? = some (Cond.code (m_nm 81) (m_bc 81) (m_ml 81) (m_rt 81)) := rfl
set_option maxRecDepth 100000 in
theorem m_code_82 : lw_tbl[236]? = some (Cond.code (m_nm 82) (m_bc 82) (m_ml 82) (m_rt 82)) := rfl
set_option maxRecDepth 100000 in
theorem m_code_83 : lw_tbl[246]? = some (Cond.code (m_nm 83) (m_bc 83) (m_ml 83) (m_rt 83)) := rfl
set_option maxRecDepth 100000 in
theorem m_code_84 : lw_tbl[239]? = some (Cond.code (m_nm 84) (m_bc 84) (m_ml 84) (m_rt 84)) := rfl
set_option maxRecDepth 100000 in
theorem m_code_85 : lw_tbl[269]? = some (Cond.code (m_nm 85) (m_bc 85) (m_ml 85) (m_rt 85)) := rfl
set_option maxRecDepth 100000 in
theorem m_code_86 : lw_tbl[455]? = some (Cond.code (m_nm 86) (m_bc 86) (m_ml 86) (m_rt 86)) := rfl
set_option maxRecDepth 100000 in
theorem m_code_87 : lw_tbl[458]? = some (Cond.code (m_nm 87) (m_bc 87) (m_ml 87) (m_rt 87)) := rfl
set_option maxRecDepth 100000 in
theorem m_code_88 : lw_tbl[324]? = some (Cond.code (m_nm 88) (m_bc 88) (m_ml 88) (m_rt 88)) := rfl
set_option maxRecDepth 100000 in
theorem m_code_89 : lw_tbl[387]? = some (Cond.code (m_nm 89) (m_bc 89) (m_ml 89) (m_rt 89)) := rfl
set_option maxRecDepth 100000 in
theorem m_code_90 : lw_tbl[471]? = some (Cond.code (m_nm 90) (m_bc 90) (m_ml 90) (m_rt 90)) := rfl
set_option maxRecDepth 100000 in
theorem m_code_91 : lw_tbl[474]? = some (Cond.code (m_nm 91) (m_bc 91) (m_ml 91) (m_rt 91)) := rfl
set_option maxRecDepth 100000 in
theorem m_code_92 : lw_tbl[612]? = some (Cond.code (m_nm 92) (m_bc 92) (m_ml 92) (m_rt 92)) := rfl
set_option maxRecDepth 100000 in
theorem m_code_93 : lw_tbl[681]? = some (Cond.code (m_nm 93) (m_bc 93) (m_ml 93) (m_rt 93)) := rfl
set_option maxRecDepth 100000 in
theorem m_code_94 : lw_tbl[713]? = some (Cond.code (m_nm 94) (m_bc 94) (m_ml 94) (m_rt 94)) := rfl
set_option maxRecDepth 100000 in
theorem m_code_95 : lw_tbl[729]? = some (Cond.code (m_nm 95) (m_bc 95) (m_ml 95) (m_rt 95)) := rfl
set_option maxRecDepth 100000 in
theorem m_code_96 : lw_tbl[695]? = some (Cond.code (m_nm 96) (m_bc 96) (m_ml 96) (m_rt 96)) := rfl
set_option maxRecDepth 100000 in
theorem m_code_97 : lw_tbl[829]? = some (Cond.code (m_nm 97) (m_bc 97) (m_ml 97) (m_rt 97)) := rfl
set_option maxRecDepth 100000 in
theorem m_code_98 : lw_tbl[688]? = some (Cond.code (m_nm 98) (m_bc 98) (m_ml 98) (m_rt 98)) := rfl
set_option maxRecDepth 100000 in
theorem m_code_99 : lw_tbl[839]? = some (Cond.code (m_nm 99) (m_bc 99) (m_ml 99) (m_rt 99)) := rfl
set_option maxRecDepth 100000 in
theorem m_code_100 : lw_tbl[835]? = some (Cond.code (m_nm 100) (m_bc 100) (m_ml 100) (m_rt 100)) := rfl
set_option maxRecDepth 100000 in
theorem m_code_101 : lw_tbl[766]? = some (Cond.code (m_nm 101) (m_bc 101) (m_ml 101) (m_rt 101)) := rfl
set_option maxRecDepth 100000 in
theorem m_code_102 : lw_tbl[754]? = some (Cond.code (m_nm 102) (m_bc 102) (m_ml 102) (m_rt 102)) := rfl
set_option maxRecDepth 100000 in
theorem m_code_103 : lw_tbl[762]? = some (Cond.code (m_nm 103) (m_bc 103) (m_ml 103) (m_rt 103)) := rfl
set_option maxRecDepth 100000 in
theorem m_code_104 : lw_tbl[758]? = some (Cond.code (m_nm 104) (m_bc 104) (m_ml 104) (m_rt 104)) := rfl
set_option maxRecDepth 100000 in
theorem m_code_105 : lw_tbl[770]? = some (Cond.code (m_nm 105) (m_bc 105) (m_ml 105) (m_rt 105)) := rfl
set_option maxRecDepth 100000 in
theorem m_code_106 : lw_tbl[750]? = some (Cond.code (m_nm 106) (m_bc 106) (m_ml 106) (m_rt 106)) := rfl
set_option maxRecDepth 100000 in
theorem m_code_107 : lw_tbl[774]? = some (Cond.code (m_nm 107) (m_bc 107) (m_ml 107) (m_rt 107)) := rfl
set_option maxRecDepth 100000 in
theorem m_code_108 : lw_tbl[746]? = some (Cond.code (m_nm 108) (m_bc 108) (m_ml 108) (m_rt 108)) := rfl
set_option maxRecDepth 100000 in
theorem m_code_109 : lw_tbl[851]? = some (Cond.code (m_nm 109) (m_bc 109) (m_ml 109) (m_rt 109)) := rfl
set_option maxRecDepth 100000 in
theorem m_code_110 : lw_tbl[742]? = some (Cond.code (m_nm 110) (m_bc 110) (m_ml 110) (m_rt 110)) := rfl
set_option maxRecDepth 100000 in
theorem m_code_111 : lw_tbl[678]? = some (Cond.code (m_nm 111) (m_bc 111) (m_ml 111) (m_rt 111)) := rfl
set_option maxRecDepth 100000 in
theorem m_code_112 : lw_tbl[699]? = some (Cond.code (m_nm 112) (m_bc 112) (m_ml 112) (m_rt 112)) := rfl
set_option maxRecDepth 100000 in
theorem m_code_113 : lw_tbl[705]? = some (Cond.code (m_nm 113) (m_bc 113) (m_ml 113) (m_rt 113)) := rfl
set_option maxRecDepth 100000 in
theorem m_code_114 : lw_tbl[692]? = some (Cond.code (m_nm 114) (m_bc 114) (m_ml 114) (m_rt 114)) := rfl
set_option maxRecDepth 100000 in
theorem m_code_115 : lw_tbl[709]? = some (Cond.code (m_nm 115) (m_bc 115) (m_ml 115) (m_rt 115)) := rfl
set_option maxRecDepth 100000 in
theorem m_code_116 : lw_tbl[721]? = some (Cond.code (m_nm 116) (m_bc 116) (m_ml 116) (m_rt 116)) := rfl
set_option maxRecDepth 100000 in
theorem m_code_117 : lw_tbl[717]? = some (Cond.code (m_nm 117) (m_bc 117) (m_ml 117) (m_rt 117)) := rfl
set_option maxRecDepth 100000 in
theorem m_code_118 : lw_tbl[725]? = some (Cond.code (m_nm 118) (m_bc 118) (m_ml 118) (m_rt 118)) := rfl
set_option maxRecDepth 100000 in
theorem m_code_119 : lw_tbl[737]? = some (Cond.code (m_nm 119) (m_bc 119) (m_ml 119) (m_rt 119)) := rfl
set_option maxRecDepth 100000 in
theorem m_code_120 : lw_tbl[733]? = some (Cond.code (m_nm 120) (m_bc 120) (m_ml 120) (m_rt 120)) := rfl
set_option maxRecDepth 100000 in
theorem m_code_121 : lw_tbl[778]? = some (Cond.code (m_nm 121) (m_bc 121) (m_ml 121) (m_rt 121)) := rfl
set_option maxRecDepth 100000 in
theorem m_code_122 : lw_tbl[782]? = some (Cond.code (m_nm 122) (m_bc 122) (m_ml 122) (m_rt 122)) := rfl
set_option maxRecDepth 100000 in
theorem m_code_123 : lw_tbl[790]? = some (Cond.code (m_nm 123) (m_bc 123) (m_ml 123) (m_rt 123)) := rfl
set_option maxRecDepth 100000 in
theorem m_code_124 : lw_tbl[818]? = some (Cond.code (m_nm 124) (m_bc 124) (m_ml 124) (m_rt 124)) := rfl
set_option maxRecDepth 100000 in
theorem m_code_125 : lw_tbl[806]? = some (Cond.code (m_nm 125) (m_bc 125) (m_ml 125) (m_rt 125)) := rfl
set_option maxRecDepth 100000 in
theorem m_code_126 : lw_tbl[810]? = some (Cond.code (m_nm 126) (m_bc 126) (m_ml 126) (m_rt 126)) := rfl
set_option maxRecDepth 100000 in
theorem m_code_127 : lw_tbl[786]? = some (Cond.code (m_nm 127) (m_bc 127) (m_ml 127) (m_rt 127)) := rfl
set_option maxRecDepth 100000 in
theorem m_code_128 : lw_tbl[822]? = some (Cond.code (m_nm 128) (m_bc 128) (m_ml 128) (m_rt 128)) := rfl
set_option maxRecDepth 100000 in
theorem m_code_129 : lw_tbl[826]? = some (Cond.code (m_nm 129) (m_bc 129) (m_ml 129) (m_rt 129)) := rfl
set_option maxRecDepth 100000 in
theorem m_code_130 : lw_tbl[843]? = some (Cond.code (m_nm 130) (m_bc 130) (m_ml 130) (m_rt 130)) := rfl
set_option maxRecDepth 100000 in
theorem m_code_131 : lw_tbl[847]? = some (Cond.code (m_nm 131) (m_bc 131) (m_ml 131) (m_rt 131)) := rfl
set_option maxRecDepth 100000 in
theorem m_code_132 : lw_tbl[855]? = some (Cond.code (m_nm 132) (m_bc 132) (m_ml 132) (m_rt 132)) := rfl
set_option maxRecDepth 100000 in
theorem m_code_133 : lw_tbl[802]? = some (Cond.code (m_nm 133) (m_bc 133) (m_ml 133) (m_rt 133)) := rfl
set_option maxRecDepth 100000 in
theorem m_code_134 : lw_tbl[859]? = some (Cond.code (m_nm 134) (m_bc 134) (m_ml 134) (m_rt 134)) := rfl
set_option maxRecDepth 100000 in
theorem m_code_135 : lw_tbl[864]? = some (Cond.code (m_nm 135) (m_bc 135) (m_ml 135) (m_rt 135)) := rfl
set_option maxRecDepth 100000 in
theorem m_code_136 : lw_tbl[869]? = some (Cond.code (m_nm 136) (m_bc 136) (m_ml 136) (m_rt 136)) := rfl
set_option maxRecDepth 100000 in
theorem m_code_137 : lw_tbl[814]? = some (Cond.code (m_nm 137) (m_bc 137) (m_ml 137) (m_rt 137)) := rfl
set_option maxRecDepth 100000 in
theorem m_code_138 : lw_tbl[873]? = some (Cond.code (m_nm 138) (m_bc 138) (m_ml 138) (m_rt 138)) := rfl
set_option maxRecDepth 100000 in
theorem m_code_139 : lw_tbl[798]? = some (Cond.code (m_nm 139) (m_bc 139) (m_ml 139) (m_rt 139)) := rfl
set_option maxRecDepth 100000 in
theorem m_code_140 : lw_tbl[794]? = some (Cond.code (m_nm 140) (m_bc 140) (m_ml 140) (m_rt 140)) := rfl
set_option maxRecDepth 100000 in
theorem m_code_141 : lw_tbl[877]? = some (Cond.code (m_nm 141) (m_bc 141) (m_ml 141) (m_rt 141)) := rfl
set_option maxRecDepth 100000 in
theorem m_code_142 : lw_tbl[882]? = some (Cond.code (m_nm 142) (m_bc 142) (m_ml 142) (m_rt 142)) := rfl
set_option maxRecDepth 100000 in
theorem m_code_143 : lw_tbl[886]? = some (Cond.code (m_nm 143) (m_bc 143) (m_ml 143) (m_rt 143)) := rfl
set_option maxRecDepth 100000 in
theorem m_code_144 : lw_tbl[890]? = some (Cond.code (m_nm 144) (m_bc 144) (m_ml 144) (m_rt 144)) := rfl
set_option maxRecDepth 100000 in
theorem m_code_145 : lw_tbl[918]? = some (Cond.code (m_nm 145) (m_bc 145) (m_ml 145) (m_rt 145)) := rfl
set_option maxRecDepth 100000 in
theorem m_code_146 : lw_tbl[914]? = some (Cond.code (m_nm 146) (m_bc 146) (m_ml 146) (m_rt 146)) := rfl
set_option maxRecDepth 100000 in
theorem m_code_147 : lw_tbl[910]? = some (Cond.code (m_nm 147) (m_bc 147) (m_ml 147) (m_rt 147)) := rfl
set_option maxRecDepth 100000 in
theorem m_code_148 : lw_tbl[906]? = some (Cond.code (m_nm 148) (m_bc 148) (m_ml 148) (m_rt 148)) := rfl
set_option maxRecDepth 100000 in
theorem m_code_149 : lw_tbl[902]? = some (Cond.code (m_nm 149) (m_bc 149) (m_ml 149) (m_rt 149)) := rfl
set_option maxRecDepth 100000 in
theorem m_code_150 : lw_tbl[922]? = some (Cond.code (m_nm 150) (m_bc 150) (m_ml 150) (m_rt 150)) := rfl
set_option maxRecDepth 100000 in
theorem m_code_151 : lw_tbl[898]? = some (Cond.code (m_nm 151) (m_bc 151) (m_ml 151) (m_rt 151)) := rfl
set_option maxRecDepth 100000 in
theorem m_code_152 : lw_tbl[894]? = some (Cond.code (m_nm 152) (m_bc 152) (m_ml 152) (m_rt 152)) := rfl
set_option maxRecDepth 100000 in
theorem m_code_153 : lw_tbl[926]? = some (Cond.code (m_nm 153) (m_bc 153) (m_ml 153) (m_rt 153)) := rfl
set_option maxRecDepth 100000 in
theorem m_code_154 : lw_tbl[377]? = some (Cond.code (m_nm 154) (m_bc 154) (m_ml 154) (m_rt 154)) := rfl
theorem m_codes_0 : ∀ y ∈ [0, 1, 2, 3, 4, 5, 6, 7, 8, 9, 10, 11, 12, 13, 14, 15, 16, 17, 18, 19], Cond.code (m_nm y) (m_bc y) (m_ml y) (m_rt y) ∈ lw_tbl := List.forall_mem_cons.mpr ⟨x_w m_code_0, List.forall_mem_cons.mpr ⟨x_w m_code_1, List.forall_mem_cons.mpr ⟨x_w m_code_2, List.forall_mem_cons.mpr ⟨x_w m_code_3, List.forall_mem_cons.mpr ⟨x_w m_code_4, List.forall_mem_cons.mpr ⟨x_w m_code_5, List.forall_mem_cons.mpr ⟨x_w m_code_6, List.forall_mem_cons.mpr ⟨x_w m_code_7, List.forall_mem_cons.mpr ⟨x_w m_code_8, List.forall_mem_cons.mpr ⟨x_w m_code_9, List.forall_mem_cons.mpr ⟨x_w m_code_10, List.forall_mem_cons.mpr ⟨x_w m_code_11, List.forall_mem_cons.mpr ⟨x_w m_code_12, List.forall_mem_cons.mpr ⟨x_w m_code_13, List.forall_mem_cons.mpr ⟨x_w m_code_14, List.forall_mem_cons.mpr ⟨x_w m_code_15, List.forall_mem_cons.mpr ⟨x_w m_code_16, List.forall_mem_cons.mpr ⟨x_w m_code_17, List.forall_mem_cons.mpr ⟨x_w m_code_18, List.forall_mem_cons.mpr ⟨x_w m_code_19, fun _ h => absurd h List.not_mem_nil⟩⟩⟩⟩⟩⟩⟩⟩⟩⟩⟩⟩⟩⟩⟩⟩⟩⟩⟩⟩
theorem m_codes_1 : ∀ y ∈ [20, 21, 22, 23, 24, 25, 26, 27, 28, 29, 30, 31, 32, 33, 34, 35, 36, 37, 38, 39], Cond.code (m_nm y) (m_bc y) (m_ml y) (m_rt y) ∈ lw_tbl := List.forall_mem_cons.mpr ⟨x_w m_code_20, List.forall_mem_cons.mpr ⟨x_w m_code_21, List.forall_mem_cons.mpr ⟨x_w m_code_22, List.forall_mem_cons.mpr ⟨x_w m_code_23, List.forall_mem_cons.mpr ⟨x_w m_code_24, List.forall_mem_cons.mpr ⟨x_w m_code_25, List.forall_mem_cons.mpr ⟨x_w m_code_26, List.forall_mem_cons.mpr ⟨x_w m_code_27, List.forall_mem_cons.mpr ⟨x_w m_code_28, List.forall_mem_cons.mpr ⟨x_w m_code_29, List.forall_mem_cons.mpr ⟨x_w m_code_30, List.forall_mem_cons.mpr ⟨x_w m_code_31, List.forall_mem_cons.mpr ⟨x_w m_code_32, List.forall_mem_cons.mpr ⟨x_w m_code_33, List.forall_mem_cons.mpr ⟨x_w m_code_34, List.forall_mem_cons.mpr ⟨x_w m_code_35, List.forall_mem_cons.mpr ⟨x_w m_code_36, List.forall_mem_cons.mpr ⟨x_w m_code_37, List.forall_mem_cons.mpr ⟨x_w m_code_38, List.forall_mem_cons.mpr ⟨x_w m_code_39, fun _ h => absurd h List.not_mem_nil⟩⟩⟩⟩⟩⟩⟩⟩⟩⟩⟩⟩⟩⟩⟩⟩⟩⟩⟩⟩
theorem m_codes_2 : ∀ y ∈ [40, 41, 42, 43, 44, 45, 46, 47, 48, 49, 50, 51, 52, 53, 54, 55, 56, 57, 58, 59], Cond.code (m_nm y) (m_bc y) (m_ml y) (m_rt y) ∈ lw_tbl := List.forall_mem_cons.mpr ⟨x_w m_code_40, List.forall_mem_cons.mpr ⟨x_w m_code_41, List.forall_mem_cons.mpr ⟨x_w m_code_42, List.forall_mem_cons.mpr ⟨x_w m_code_43, List.forall_mem_cons.mpr ⟨x_w m_code_44, List.forall_mem_cons.mpr ⟨x_w m_code_45, List.forall_mem_cons.mpr ⟨x_w m_code_46, List.forall_mem_cons.mpr ⟨x_w m_code_47, List.forall_mem_cons.mpr ⟨x_w m_code_48, List.forall_mem_cons.mpr ⟨x_w m_code_49, List.forall_mem_cons.mpr ⟨x_w m_code_50, List.forall_mem_cons.mpr ⟨x_w m_code_51, List.forall_mem_cons.mpr ⟨x_w m_code_52, List.forall_mem_cons.mpr ⟨x_w m_code_53, List.forall_mem_cons.mpr ⟨x_w m_code_54, List.forall_mem_cons.mpr ⟨x_w m_code_55, List.forall_mem_cons.mpr ⟨x_w m_code_56, List.forall_mem_cons.mpr ⟨x_w m_code_57, List.forall_mem_cons.mpr ⟨x_w m_code_58, List.forall_mem_cons.mpr ⟨x_w m_code_59, fun _ h => absurd h List.not_mem_nil⟩⟩⟩⟩⟩⟩⟩⟩⟩⟩⟩⟩⟩⟩⟩⟩⟩⟩⟩⟩
theorem m_codes_3 : ∀ y ∈ [60, 61, 62, 63, 64, 65, 66, 67, 68, 69, 70, 71, 72, 73, 74, 75, 76, 77, 78, 79], Cond.code (m_nm y) (m_bc y) (m_ml y) (m_rt y) ∈ lw_tbl := List.forall_mem_cons.mpr ⟨x_w m_code_60, List.forall_mem_cons.mpr ⟨x_w m_code_61, List.forall_mem_cons.mpr ⟨x_w m_code_62, List.forall_mem_cons.mpr ⟨x_w m_code_63, List.forall_mem_cons.mpr ⟨x_w m_code_64, List.forall_mem_cons.mpr ⟨x_w m_code_65, List.forall_mem_cons.mpr ⟨x_w m_code_66, List.forall_mem_cons.mpr ⟨x_w m_code_67, List.forall_mem_cons.mpr ⟨x_w m_code_68, List.forall_mem_cons.mpr ⟨x_w m_code_69, List.forall_mem_cons.mpr ⟨x_w m_code_70, List.forall_mem_cons.mpr ⟨x_w m_code_71, List.forall_mem_cons.mpr ⟨x_w m_code_72, List.forall_mem_cons.mpr ⟨x_w m_code_73, List.forall_mem_cons.mpr ⟨x_w m_code_74, List.forall_mem_cons.mpr ⟨x_w m_code_75, List.forall_mem_cons.mpr ⟨x_w m_code_76, List.forall_mem_cons.mpr ⟨x_w m_code_77, List.forall_mem_cons.mpr ⟨x_w m_code_78, List.forall_mem_cons.mpr ⟨x_w m_code_79, fun _ h => absurd h List.not_mem_nil⟩⟩⟩⟩⟩⟩⟩⟩⟩⟩⟩⟩⟩⟩⟩⟩⟩⟩⟩⟩
theorem m_codes_4 : ∀ y ∈ [80, 81, 82, 83, 84, 85, 86, 87, 88, 89, 90, 91, 92, 93, 94, 95, 96, 97, 98, 99], Cond.code (m_nm y) (m_bc y) (m_ml y) (m_rt y) ∈ lw_tbl := List.forall_mem_cons.mpr ⟨x_w m_code_80, List.forall_mem_cons.mpr ⟨x_w m_code_81, List.forall_mem_cons.mpr ⟨x_w m_code_82, List.forall_mem_cons.mpr ⟨x_w m_code_83, List.forall_mem_cons.mpr ⟨x_w m_code_84, List.forall_mem_cons.mpr ⟨x_w m_code_85, List.forall_mem_cons.mpr ⟨x_w m_code_86, List.forall_mem_cons.mpr ⟨x_w m_code_87, List.forall_mem_cons.mpr ⟨x_w m_code_88, List.forall_mem_cons.mpr ⟨x_w m_code_89, List.forall_mem_cons.mpr ⟨x_w m_code_90, List.forall_mem_cons.mpr ⟨x_w m_code_91, List.forall_mem_cons.mpr ⟨x_w m_code_92, List.forall_mem_cons.mpr ⟨x_w m_code_93, List.forall_mem_cons.mpr ⟨x_w m_code_94, List.forall_mem_cons.mpr ⟨x_w m_code_95, List.forall_mem_cons.mpr ⟨x_w m_code_96, List.forall_mem_cons.mpr ⟨x_w m_code_97, List.forall_mem_cons.mpr ⟨x_w m_code_98, List.forall_mem_cons.mpr ⟨x_w m_code_99, fun _ h => absurd h List.not_mem_nil⟩⟩⟩⟩⟩⟩⟩⟩⟩⟩⟩⟩⟩⟩⟩⟩⟩⟩⟩⟩
theorem m_codes_5 : ∀ y ∈ [100, 101, 102, 103, 104, 105, 106, 107, 108, 109, 110, 111, 112, 113, 114, 115, 116, 117, 118, 119], Cond.code (m_nm y) (m_bc y) (m_ml y) (m_rt y) ∈ lw_tbl := List.forall_mem_cons.mpr ⟨x_w m_code_100, List.forall_mem_cons.mpr ⟨x_w m_code_101, List.forall_mem_cons.mpr ⟨x_w m_code_102, List.forall_mem_cons.mpr ⟨x_w m_code_103, List.forall_mem_cons.mpr ⟨x_w m_code_104, List.forall_mem_cons.mpr ⟨x_w m_code_105, List.forall_mem_cons.mpr ⟨x_w m_code_106, List.forall_mem_cons.mpr ⟨x_w m_code_107, List.forall_mem_cons.mpr ⟨x_w m_code_108, List.forall_mem_cons.mpr ⟨x_w m_code_109, List.forall_mem_cons.mpr ⟨x_w m_code_110, List.forall_mem_cons.mpr ⟨x_w m_code_111, List.forall_mem_cons.mpr ⟨x_w m_code_112, List.forall_mem_cons.mpr ⟨x_w m_code_113, List.forall_mem_cons.mpr ⟨x_w m_code_114, List.forall_mem_cons.mpr ⟨x_w m_code_115, List.forall_mem_cons.mpr ⟨x_w m_code_116, List.forall_mem_cons.mpr ⟨x_w m_code_117, List.forall_mem_cons.mpr ⟨x_w m_code_118, List.forall_mem_cons.mpr ⟨x_w m_code_119, fun _ h => absurd h List.not_mem_nil⟩⟩⟩⟩⟩⟩⟩⟩⟩⟩⟩⟩⟩⟩⟩⟩⟩⟩⟩⟩
theorem m_codes_6 : ∀ y ∈ [120, 121, 122, 123, 124, 125, 126, 127, 128, 129, 130, 131, 132, 133, 134, 135, 136, 137, 138, 139], Cond.code (m_nm y) (m_bc y) (m_ml y) (m_rt y) ∈ lw_tbl := List.forall_mem_cons.mpr ⟨x_w m_code_120, List.forall_mem_cons.mpr ⟨x_w m_code_121, List.forall_mem_cons.mpr ⟨x_w m_code_122, List.forall_mem_cons.mpr ⟨x_w m_code_123, List.forall_mem_cons.mpr ⟨x_w m_code_124, List.forall_mem_cons.mpr ⟨x_w m_code_125, List.forall_mem_cons.mpr ⟨x_w m_code_126, List.forall_mem_cons.mpr ⟨x_w m_code_127, List.forall_mem_cons.mpr ⟨x_w m_code_128, List.forall_mem_cons.mpr ⟨x_w m_code_129, List.forall_mem_cons.mpr ⟨x_w m_code_130, List.forall_mem_cons.mpr ⟨x_w m_code_131, List.forall_mem_cons.mpr ⟨x_w m_code_132, List.forall_mem_cons.mpr ⟨x_w m_code_133, List.forall_mem_cons.mpr ⟨x_w m_code_134, List.forall_mem_cons.mpr ⟨x_w m_code_135, List.forall_mem_cons.mpr ⟨x_w m_code_136, List.forall_mem_cons.mpr ⟨x_w m_code_137, List.forall_mem_cons.mpr ⟨x_w m_code_138, List.forall_mem_cons.mpr ⟨x_w m_code_139, fun _ h => absurd h List.not_mem_nil⟩⟩⟩⟩⟩⟩⟩⟩⟩⟩⟩⟩⟩⟩⟩⟩⟩⟩⟩⟩
theorem m_codes_7 : ∀ y ∈ [140, 141, 142, 143, 144, 145, 146, 147, 148, 149, 150, 151, 152, 153, 154], Cond.code (m_nm y) (m_bc y) (m_ml y) (m_rt y) ∈ lw_tbl := List.forall_mem_cons.mpr ⟨x_w m_code_140, List.forall_mem_cons.mpr ⟨x_w m_code_141, List.forall_mem_cons.mpr ⟨x_w m_code_142, List.forall_mem_cons.mpr ⟨x_w m_code_143, List.forall_mem_cons.mpr ⟨x_w m_code_144, List.forall_mem_cons.mpr ⟨x_w m_code_145, List.forall_mem_cons.mpr ⟨x_w m_code_146, List.forall_mem_cons.mpr ⟨x_w m_code_147, List.forall_mem_cons.mpr ⟨x_w m_code_148, List.forall_mem_cons.mpr ⟨x_w m_code_149, List.forall_mem_cons.mpr ⟨x_w m_code_150, List.forall_mem_cons.mpr ⟨x_w m_code_151, List.forall_mem_cons.mpr ⟨x_w m_code_152, List.forall_mem_cons.mpr ⟨x_w m_code_153, List.forall_mem_cons.mpr ⟨x_w m_code_154, fun _ h => absurd h List.not_mem_nil⟩⟩⟩⟩⟩⟩⟩⟩⟩⟩⟩⟩⟩⟩⟩
theorem m_code (y : Nat) (hy : y < 155) : Cond.code (m_nm y) (m_bc y) (m_ml y) (m_rt y) ∈ lw_tbl := by
  have h : ∀ y ∈ List.range 155, Cond.code (m_nm y) (m_bc y) (m_ml y) (m_rt y) ∈ lw_tbl := by
    rw [show List.range 155 = [0, 1, 2, 3, 4, 5, 6, 7, 8, 9, 10, 11, 12, 13, 14, 15, 16, 17, 18, 19] ++ ([20, 21, 22, 23, 24, 25, 26, 27, 28, 29, 30, 31, 32, 33, 34, 35, 36, 37, 38, 39] ++ ([40, 41, 42, 43, 44, 45, 46, 47, 48, 49, 50, 51, 52, 53, 54, 55, 56, 57, 58, 59] ++ ([60, 61, 62, 63, 64, 65, 66, 67, 68, 69, 70, 71, 72, 73, 74, 75, 76, 77, 78, 79] ++ ([80, 81, 82, 83, 84, 85, 86, 87, 88, 89, 90, 91, 92, 93, 94, 95, 96, 97, 98, 99] ++ ([100, 101, 102, 103, 104, 105, 106, 107, 108, 109, 110, 111, 112, 113, 114, 115, 116, 117, 118, 119] ++ ([120, 121, 122, 123, 124, 125, 126, 127, 128, 129, 130, 131, 132, 133, 134, 135, 136, 137, 138, 139] ++ ([140, 141, 142, 143, 144, 145, 146, 147, 148, 149, 150, 151, 152, 153, 154]))))))) from by decide +kernel]
    exact List.forall_mem_append.mpr ⟨m_codes_0, List.forall_mem_append.mpr ⟨m_codes_1, List.forall_mem_append.mpr ⟨m_codes_2, List.forall_mem_append.mpr ⟨m_codes_3, List.forall_mem_append.mpr ⟨m_codes_4, List.forall_mem_append.mpr ⟨m_codes_5, List.forall_mem_append.mpr ⟨m_codes_6, m_codes_7⟩⟩⟩⟩⟩⟩⟩
  exact h y (List.mem_range.mpr hy)
def x_iws : List Nat := [52, 52, 52, 52, 52, 52, 52, 52, 52, 52, 52, 52, 52, 52, 52, 52, 52, 52, 52, 52, 52, 52, 52, 52, 52, 52, 53, 53, 53, 53, 56, 56, 56, 56, 56, 56, 56, 56, 56, 56, 56, 56, 56, 56, 56, 56, 54, 54, 54, 54, 54, 54, 54, 54, 55, 55, 55, 51, 51, 51, 51, 51, 51, 51, 51, 51, 51, 51, 51, 51, 51, 51, 51, 51, 51, 51, 51, 51, 51, 51, 51, 51, 51, 51, 51, 51, 51, 51, 51, 51, 51, 51, 57, 57, 57, 57, 57, 57, 57, 57, 57, 57, 57, 57, 57, 57, 57, 57, 57, 57, 57, 57, 57, 57, 57, 57, 57, 57, 57, 57, 57, 57, 57, 57, 57, 57, 57, 57, 57, 57, 57, 57, 57, 57, 57, 57, 57, 57, 57, 57, 57, 57, 57, 57, 57, 57, 57, 57, 57, 57, 57, 57, 57, 57, 58]
theorem m_ini : ∀ y, y < 155 → lw_tbl[x_iws.getD y 0]? = some (Cond.initialized (m_cn y)) := by decide +kernel
theorem m_facts : ∀ y, y < 155 → (plainName (m_cn y) = true ∧ m_cn y ≠ "java/lang/invoke/MethodHandle" ∧ m_cn y ≠ "java/lang/invoke/VarHandle" ∧ (parseMethodDescriptor (m_nm y).desc).map (fun d => d.parameters.length) = some (m_np y) ∧ m_ml y ≤ 17) := by decide +kernel
def x_mws : List (Nat × Nat × Nat) := [(73, 66, 67), (259, 261, 2), (308, 285, 286), (321, 271, 272), (601, 277, 278), (602, 297, 298), (346, 347, 348), (362, 355, 356), (432, 434, 9), (436, 376, 436), (411, 318, 319), (416, 343, 344), (412, 413, 414), (417, 418, 419), (420, 421, 422), (115, 66, 67), (118, 71, 118), (251, 253, 1), (255, 256, 257), (189, 66, 67), (334, 336, 3), (363, 365, 5), (330, 331, 332), (381, 383, 8), (464, 466, 10), (491, 347, 348), (350, 352, 4), (354, 355, 356), (358, 359, 360), (500, 488, 489), (516, 418, 419), (338, 339, 340), (342, 343, 344), (367, 369, 6), (371, 373, 7), (375, 376, 375), (132, 66, 67), (577, 579, 12), (581, 583, 13), (589, 591, 15), (585, 587, 14), (593, 594, 593), (164, 66, 67), (166, 71, 166), (568, 256, 257), (569, 571, 11), (573, 574, 575), (596, 238, 596), (597, 598, 599), (65, 66, 67), (70, 71, 70), (112, 113, 112), (129, 130, 129), (161, 162, 161), (186, 187, 186), (234, 235, 234), (243, 245, 0), (247, 248, 249), (267, 268, 267), (270, 271, 272), (276, 277, 278), (284, 285, 286), (288, 289, 290), (237, 238, 237), (296, 297, 298), (304, 305, 306), (309, 310, 311), (317, 318, 319), (322, 323, 322), (326, 327, 328), (385, 386, 385), (392, 347, 348), (401, 402, 403), (405, 331, 332), (406, 339, 340), (407, 408, 409), (424, 425, 426), (428, 429, 430), (437, 438, 439), (445, 446, 447), (453, 454, 453), (456, 457, 456), (460, 461, 462), (469, 470, 469), (487, 488, 489), (496, 497, 498), (506, 343, 344), (511, 512, 513), (521, 522, 523), (529, 530, 531), (537, 413, 414), (539, 421, 422), (544, 545, 546), (552, 553, 554), (564, 565, 566), (607, 256, 257), (472, 473, 472), (475, 418, 419), (476, 477, 478), (613, 66, 67), (679, 680, 679), (710, 712, 19), (836, 838, 41), (763, 765, 29), (751, 753, 26), (755, 757, 27), (759, 761, 28), (767, 769, 30), (747, 749, 25), (771, 773, 31), (743, 745, 24), (685, 687, 16), (693, 694, 693), (696, 698, 17), (702, 704, 18), (718, 720, 20), (726, 728, 21), (734, 736, 22), (739, 741, 23), (811, 813, 38), (787, 789, 32), (791, 793, 33), (803, 805, 36), (807, 809, 37), (815, 817, 39), (827, 828, 827), (832, 834, 40), (848, 850, 42), (799, 801, 35), (795, 797, 34), (911, 913, 47), (915, 917, 48), (907, 909, 46), (899, 901, 44), (903, 905, 45), (919, 921, 49), (895, 897, 43), (62, 63, 62), (610, 611, 610), (230, 231, 232), (675, 676, 677), (263, 264, 265), (689, 690, 691), (280, 281, 282), (706, 707, 708), (292, 293, 294), (714, 715, 716), (300, 301, 302), (722, 723, 724), (313, 314, 315), (730, 731, 732), (388, 389, 390), (775, 776, 777), (393, 394, 395), (779, 780, 781), (397, 398, 399), (783, 784, 785), (441, 442, 443), (819, 820, 821), (449, 450, 451), (823, 824, 825), (479, 480, 481), (840, 841, 842), (483, 484, 485), (844, 845, 846), (492, 493, 494), (852, 853, 854), (501, 502, 503), (856, 857, 858), (507, 508, 509), (861, 862, 863), (517, 518, 519), (866, 867, 868), (525, 526, 527), (870, 871, 872), (533, 534, 535), (874, 875, 876), (540, 541, 542), (879, 880, 881), (548, 549, 550), (883, 884, 885), (556, 557, 558), (887, 888, 889), (560, 561, 562), (891, 892, 893), (603, 604, 605), (923, 924, 925)]
def x_mok (q : Nat × Nat × Nat × Nat) (p : Nat × Nat × Nat) : Prop := match q.2.2.1 with
  | 0 => lw_tbl[p.1]? = some (.methodLink (x_cn q.1) q.2.1 (m_nm q.2.2.2)) ∧ lw_tbl[p.2.1]? = some (.instanceMethod (m_nm q.2.2.2)) ∧ lw_tbl[p.2.2]? = some (.selects (m_cn q.2.2.2) (m_nm q.2.2.2) (m_nm q.2.2.2)) ∧ q.2.2.2 < 155
  | 1 => lw_tbl[p.1]? = some (.methodLink (x_cn q.1) q.2.1 (m_nm q.2.2.2)) ∧ lw_tbl[p.2.1]? = some (.static (m_nm q.2.2.2)) ∧ (m_cn q.2.2.2 = x_cn q.1 ∨ True) ∧ q.2.2.2 < 155
  | 2 => lw_tbl[p.1]? = some (.methodLink (x_cn q.1) q.2.1 (m_nm q.2.2.2)) ∧ lw_tbl[p.2.1]? = some (.instanceMethod (m_nm q.2.2.2)) ∧ (m_nd q.2.2.2).1 = "<init>" ∧ q.2.2.2 < 155 ∧ m_rt q.2.2.2 = none
  | 3 => lw_tbl[p.1]? = some (.methodLink (x_cn q.1) q.2.1 Lib.objectInit) ∧ lw_tbl[p.2.1]? = some (.instanceMethod Lib.objectInit) ∧ lw_tbl[p.2.2]? = some (.code Lib.objectInit ⟨#[0xb1]⟩ 1 none)
  | 4 => lw_tbl[p.1]? = some (.methodLink (x_cn q.1) q.2.1 Lib.MathLoose.abs_long.x) ∧ lw_tbl[p.2.1]? = some (.static Lib.MathLoose.abs_long.x) ∧ lw_tbl[p.2.2]? = some (.code Lib.MathLoose.abs_long.x Lib.MathLoose.abs_long.code 2 (some .long))
  | 5 => lw_tbl[p.1]? = some (.methodLink (x_cn q.1) q.2.1 Lib.MathLoose.max_long.x) ∧ lw_tbl[p.2.1]? = some (.static Lib.MathLoose.max_long.x) ∧ lw_tbl[p.2.2]? = some (.code Lib.MathLoose.max_long.x Lib.MathLoose.max_long.code 4 (some .long))
  | 6 => lw_tbl[p.1]? = some (.methodLinkNest (x_cn q.1) q.2.1 (m_nm q.2.2.2) "WeighingDesign") ∧ lw_tbl[p.2.1]? = some (.static (m_nm q.2.2.2)) ∧ q.2.2.2 < 155
  | _ => False
def x_mp : List ((Nat × Nat × Nat × Nat) × (Nat × Nat × Nat)) := x_mls.zip x_mws
theorem x_len : x_mls.length = x_mws.length := by decide +kernel
theorem x_mok_0 : x_mok (0, 3, 3, 0) (73, 66, 67) := ⟨by decide +kernel, by decide +kernel, by decide +kernel⟩
theorem x_mok_1 : x_mok (0, 37, 0, 2) (259, 261, 2) := ⟨by decide +kernel, by decide +kernel, by decide +kernel, by decide +kernel⟩
theorem x_mok_2 : x_mok (0, 41, 0, 3) (308, 285, 286) := ⟨by decide +kernel, by decide +kernel, by decide +kernel, by decide +kernel⟩
theorem x_mok_3 : x_mok (0, 45, 0, 6) (321, 271, 272) := ⟨by decide +kernel, by decide +kernel, by decide +kernel, by decide +kernel⟩
theorem x_mok_4 : x_mok (0, 49, 0, 7) (601, 277, 278) := ⟨by decide +kernel, by decide +kernel, by decide +kernel, by decide +kernel⟩
theorem x_mok_5 : x_mok (0, 52, 0, 9) (602, 297, 298) := ⟨by decide +kernel, by decide +kernel, by decide +kernel, by decide +kernel⟩
theorem x_mok_6 : x_mok (0, 55, 0, 5) (346, 347, 348) := ⟨by decide +kernel, by decide +kernel, by decide +kernel, by decide +kernel⟩
theorem x_mok_7 : x_mok (0, 58, 0, 15) (362, 355, 356) := ⟨by decide +kernel, by decide +kernel, by decide +kernel, by decide +kernel⟩
theorem x_mok_8 : x_mok (0, 61, 0, 19) (432, 434, 9) := ⟨by decide +kernel, by decide +kernel, by decide +kernel, by decide +kernel⟩
theorem x_mok_9 : x_mok (0, 65, 1, 154) (436, 376, 436) := ⟨by decide +kernel, by decide +kernel, Or.inr trivial, by decide +kernel⟩
theorem x_mok_10 : x_mok (0, 70, 0, 20) (411, 318, 319) := ⟨by decide +kernel, by decide +kernel, by decide +kernel, by decide +kernel⟩
theorem x_mok_11 : x_mok (0, 73, 0, 14) (416, 343, 344) := ⟨by decide +kernel, by decide +kernel, by decide +kernel, by decide +kernel⟩
theorem x_mok_12 : x_mok (0, 76, 0, 22) (412, 413, 414) := ⟨by decide +kernel, by decide +kernel, by decide +kernel, by decide +kernel⟩
theorem x_mok_13 : x_mok (0, 80, 4, 0) (417, 418, 419) := ⟨by decide +kernel, by decide +kernel, by decide +kernel⟩
theorem x_mok_14 : x_mok (0, 86, 0, 23) (420, 421, 422) := ⟨by decide +kernel, by decide +kernel, by decide +kernel, by decide +kernel⟩
theorem x_mok_15 : x_mok (1, 3, 3, 0) (115, 66, 67) := ⟨by decide +kernel, by decide +kernel, by decide +kernel⟩
theorem x_mok_16 : x_mok (1, 17, 2, 0) (118, 71, 118) := ⟨by decide +kernel, by decide +kernel, by decide +kernel, by decide +kernel, by decide +kernel⟩
theorem x_mok_17 : x_mok (1, 22, 0, 28) (251, 253, 1) := ⟨by decide +kernel, by decide +kernel, by decide +kernel, by decide +kernel⟩
theorem x_mok_18 : x_mok (1, 25, 0, 1) (255, 256, 257) := ⟨by decide +kernel, by decide +kernel, by decide +kernel, by decide +kernel⟩
theorem x_mok_19 : x_mok (2, 3, 3, 0) (189, 66, 67) := ⟨by decide +kernel, by decide +kernel, by decide +kernel⟩
theorem x_mok_20 : x_mok (2, 26, 0, 39) (334, 336, 3) := ⟨by decide +kernel, by decide +kernel, by decide +kernel, by decide +kernel⟩
theorem x_mok_21 : x_mok (2, 30, 0, 42) (363, 365, 5) := ⟨by decide +kernel, by decide +kernel, by decide +kernel, by decide +kernel⟩
theorem x_mok_22 : x_mok (2, 34, 0, 31) (330, 331, 332) := ⟨by decide +kernel, by decide +kernel, by decide +kernel, by decide +kernel⟩
theorem x_mok_23 : x_mok (2, 38, 0, 41) (381, 383, 8) := ⟨by decide +kernel, by decide +kernel, by decide +kernel, by decide +kernel⟩
theorem x_mok_24 : x_mok (2, 48, 0, 43) (464, 466, 10) := ⟨by decide +kernel, by decide +kernel, by decide +kernel, by decide +kernel⟩
theorem x_mok_25 : x_mok (2, 51, 0, 5) (491, 347, 348) := ⟨by decide +kernel, by decide +kernel, by decide +kernel, by decide +kernel⟩
theorem x_mok_26 : x_mok (2, 55, 0, 40) (350, 352, 4) := ⟨by decide +kernel, by decide +kernel, by decide +kernel, by decide +kernel⟩
theorem x_mok_27 : x_mok (2, 59, 0, 15) (354, 355, 356) := ⟨by decide +kernel, by decide +kernel, by decide +kernel, by decide +kernel⟩
theorem x_mok_28 : x_mok (2, 72, 0, 16) (358, 359, 360) := ⟨by decide +kernel, by decide +kernel, by decide +kernel, by decide +kernel⟩
theorem x_mok_29 : x_mok (2, 79, 0, 36) (500, 488, 489) := ⟨by decide +kernel, by decide +kernel, by decide +kernel, by decide +kernel⟩
theorem x_mok_30 : x_mok (2, 85, 4, 0) (516, 418, 419) := ⟨by decide +kernel, by decide +kernel, by decide +kernel⟩
theorem x_mok_31 : x_mok (2, 91, 0, 12) (338, 339, 340) := ⟨by decide +kernel, by decide +kernel, by decide +kernel, by decide +kernel⟩
theorem x_mok_32 : x_mok (2, 94, 0, 14) (342, 343, 344) := ⟨by decide +kernel, by decide +kernel, by decide +kernel, by decide +kernel⟩
theorem x_mok_33 : x_mok (2, 98, 0, 44) (367, 369, 6) := ⟨by decide +kernel, by decide +kernel, by decide +kernel, by decide +kernel⟩
theorem x_mok_34 : x_mok (2, 102, 0, 45) (371, 373, 7) := ⟨by decide +kernel, by decide +kernel, by decide +kernel, by decide +kernel⟩
theorem x_mok_35 : x_mok (2, 106, 1, 154) (375, 376, 375) := ⟨by decide +kernel, by decide +kernel, Or.inr trivial, by decide +kernel⟩
theorem x_mok_36 : x_mok (3, 3, 3, 0) (132, 66, 67) := ⟨by decide +kernel, by decide +kernel, by decide +kernel⟩
theorem x_mok_37 : x_mok (3, 22, 0, 49) (577, 579, 12) := ⟨by decide +kernel, by decide +kernel, by decide +kernel, by decide +kernel⟩
theorem x_mok_38 : x_mok (3, 29, 0, 51) (581, 583, 13) := ⟨by decide +kernel, by decide +kernel, by decide +kernel, by decide +kernel⟩
theorem x_mok_39 : x_mok (3, 36, 0, 50) (589, 591, 15) := ⟨by decide +kernel, by decide +kernel, by decide +kernel, by decide +kernel⟩
theorem x_mok_40 : x_mok (3, 40, 0, 52) (585, 587, 14) := ⟨by decide +kernel, by decide +kernel, by decide +kernel, by decide +kernel⟩
theorem x_mok_41 : x_mok (3, 44, 1, 53) (593, 594, 593) := ⟨by decide +kernel, by decide +kernel, Or.inr trivial, by decide +kernel⟩
theorem x_mok_42 : x_mok (4, 3, 3, 0) (164, 66, 67) := ⟨by decide +kernel, by decide +kernel, by decide +kernel⟩
theorem x_mok_43 : x_mok (4, 11, 2, 0) (166, 71, 166) := ⟨by decide +kernel, by decide +kernel, by decide +kernel, by decide +kernel, by decide +kernel⟩
theorem x_mok_44 : x_mok (4, 18, 0, 1) (568, 256, 257) := ⟨by decide +kernel, by decide +kernel, by decide +kernel, by decide +kernel⟩
theorem x_mok_45 : x_mok (4, 37, 0, 56) (569, 571, 11) := ⟨by decide +kernel, by decide +kernel, by decide +kernel, by decide +kernel⟩
theorem x_mok_46 : x_mok (4, 44, 0, 48) (573, 574, 575) := ⟨by decide +kernel, by decide +kernel, by decide +kernel, by decide +kernel⟩
theorem x_mok_47 : x_mok (4, 57, 6, 84) (596, 238, 596) := ⟨by decide +kernel, by decide +kernel, by decide +kernel⟩
theorem x_mok_48 : x_mok (4, 60, 0, 11) (597, 598, 599) := ⟨by decide +kernel, by decide +kernel, by decide +kernel, by decide +kernel⟩
theorem x_mok_49 : x_mok (5, 1, 3, 0) (65, 66, 67) := ⟨by decide +kernel, by decide +kernel, by decide +kernel⟩
theorem x_mok_50 : x_mok (5, 9, 2, 0) (70, 71, 70) := ⟨by decide +kernel, by decide +kernel, by decide +kernel, by decide +kernel, by decide +kernel⟩
theorem x_mok_51 : x_mok (5, 18, 2, 26) (112, 113, 112) := ⟨by decide +kernel, by decide +kernel, by decide +kernel, by decide +kernel, by decide +kernel⟩
theorem x_mok_52 : x_mok (5, 25, 2, 46) (129, 130, 129) := ⟨by decide +kernel, by decide +kernel, by decide +kernel, by decide +kernel, by decide +kernel⟩
theorem x_mok_53 : x_mok (5, 32, 2, 54) (161, 162, 161) := ⟨by decide +kernel, by decide +kernel, by decide +kernel, by decide +kernel, by decide +kernel⟩
theorem x_mok_54 : x_mok (5, 39, 2, 30) (186, 187, 186) := ⟨by decide +kernel, by decide +kernel, by decide +kernel, by decide +kernel, by decide +kernel⟩
theorem x_mok_55 : x_mok (5, 44, 1, 82) (234, 235, 234) := ⟨by decide +kernel, by decide +kernel, Or.inr trivial, by decide +kernel⟩
theorem x_mok_56 : x_mok (5, 49, 0, 83) (243, 245, 0) := ⟨by decide +kernel, by decide +kernel, by decide +kernel, by decide +kernel⟩
theorem x_mok_57 : x_mok (5, 53, 0, 27) (247, 248, 249) := ⟨by decide +kernel, by decide +kernel, by decide +kernel, by decide +kernel⟩
theorem x_mok_58 : x_mok (5, 67, 1, 85) (267, 268, 267) := ⟨by decide +kernel, by decide +kernel, Or.inr trivial, by decide +kernel⟩
theorem x_mok_59 : x_mok (5, 71, 0, 6) (270, 271, 272) := ⟨by decide +kernel, by decide +kernel, by decide +kernel, by decide +kernel⟩
theorem x_mok_60 : x_mok (5, 80, 0, 7) (276, 277, 278) := ⟨by decide +kernel, by decide +kernel, by decide +kernel, by decide +kernel⟩
theorem x_mok_61 : x_mok (5, 83, 0, 3) (284, 285, 286) := ⟨by decide +kernel, by decide +kernel, by decide +kernel, by decide +kernel⟩
theorem x_mok_62 : x_mok (5, 86, 0, 8) (288, 289, 290) := ⟨by decide +kernel, by decide +kernel, by decide +kernel, by decide +kernel⟩
theorem x_mok_63 : x_mok (5, 90, 1, 84) (237, 238, 237) := ⟨by decide +kernel, by decide +kernel, Or.inr trivial, by decide +kernel⟩
theorem x_mok_64 : x_mok (5, 97, 0, 9) (296, 297, 298) := ⟨by decide +kernel, by decide +kernel, by decide +kernel, by decide +kernel⟩
theorem x_mok_65 : x_mok (5, 100, 0, 4) (304, 305, 306) := ⟨by decide +kernel, by decide +kernel, by decide +kernel, by decide +kernel⟩
theorem x_mok_66 : x_mok (5, 103, 0, 10) (309, 310, 311) := ⟨by decide +kernel, by decide +kernel, by decide +kernel, by decide +kernel⟩
theorem x_mok_67 : x_mok (5, 113, 0, 20) (317, 318, 319) := ⟨by decide +kernel, by decide +kernel, by decide +kernel, by decide +kernel⟩
theorem x_mok_68 : x_mok (5, 116, 1, 88) (322, 323, 322) := ⟨by decide +kernel, by decide +kernel, Or.inr trivial, by decide +kernel⟩
theorem x_mok_69 : x_mok (5, 119, 0, 32) (326, 327, 328) := ⟨by decide +kernel, by decide +kernel, by decide +kernel, by decide +kernel⟩
theorem x_mok_70 : x_mok (5, 123, 1, 89) (385, 386, 385) := ⟨by decide +kernel, by decide +kernel, Or.inr trivial, by decide +kernel⟩
theorem x_mok_71 : x_mok (5, 127, 0, 5) (392, 347, 348) := ⟨by decide +kernel, by decide +kernel, by decide +kernel, by decide +kernel⟩
theorem x_mok_72 : x_mok (5, 130, 0, 13) (401, 402, 403) := ⟨by decide +kernel, by decide +kernel, by decide +kernel, by decide +kernel⟩
theorem x_mok_73 : x_mok (5, 134, 0, 31) (405, 331, 332) := ⟨by decide +kernel, by decide +kernel, by decide +kernel, by decide +kernel⟩
theorem x_mok_74 : x_mok (5, 138, 0, 12) (406, 339, 340) := ⟨by decide +kernel, by decide +kernel, by decide +kernel, by decide +kernel⟩
theorem x_mok_75 : x_mok (5, 141, 0, 24) (407, 408, 409) := ⟨by decide +kernel, by decide +kernel, by decide +kernel, by decide +kernel⟩
theorem x_mok_76 : x_mok (5, 145, 0, 21) (424, 425, 426) := ⟨by decide +kernel, by decide +kernel, by decide +kernel, by decide +kernel⟩
theorem x_mok_77 : x_mok (5, 148, 0, 18) (428, 429, 430) := ⟨by decide +kernel, by decide +kernel, by decide +kernel, by decide +kernel⟩
theorem x_mok_78 : x_mok (5, 157, 0, 33) (437, 438, 439) := ⟨by decide +kernel, by decide +kernel, by decide +kernel, by decide +kernel⟩
theorem x_mok_79 : x_mok (5, 161, 0, 29) (445, 446, 447) := ⟨by decide +kernel, by decide +kernel, by decide +kernel, by decide +kernel⟩
theorem x_mok_80 : x_mok (5, 164, 1, 86) (453, 454, 453) := ⟨by decide +kernel, by decide +kernel, Or.inr trivial, by decide +kernel⟩
theorem x_mok_81 : x_mok (5, 167, 1, 87) (456, 457, 456) := ⟨by decide +kernel, by decide +kernel, Or.inr trivial, by decide +kernel⟩
theorem x_mok_82 : x_mok (5, 172, 0, 34) (460, 461, 462) := ⟨by decide +kernel, by decide +kernel, by decide +kernel, by decide +kernel⟩
theorem x_mok_83 : x_mok (5, 177, 1, 90) (469, 470, 469) := ⟨by decide +kernel, by decide +kernel, Or.inr trivial, by decide +kernel⟩
theorem x_mok_84 : x_mok (5, 189, 0, 36) (487, 488, 489) := ⟨by decide +kernel, by decide +kernel, by decide +kernel, by decide +kernel⟩
theorem x_mok_85 : x_mok (5, 193, 0, 37) (496, 497, 498) := ⟨by decide +kernel, by decide +kernel, by decide +kernel, by decide +kernel⟩
theorem x_mok_86 : x_mok (5, 199, 0, 14) (506, 343, 344) := ⟨by decide +kernel, by decide +kernel, by decide +kernel, by decide +kernel⟩
theorem x_mok_87 : x_mok (5, 202, 0, 38) (511, 512, 513) := ⟨by decide +kernel, by decide +kernel, by decide +kernel, by decide +kernel⟩
theorem x_mok_88 : x_mok (5, 205, 0, 35) (521, 522, 523) := ⟨by decide +kernel, by decide +kernel, by decide +kernel, by decide +kernel⟩
theorem x_mok_89 : x_mok (5, 209, 0, 17) (529, 530, 531) := ⟨by decide +kernel, by decide +kernel, by decide +kernel, by decide +kernel⟩
theorem x_mok_90 : x_mok (5, 212, 0, 22) (537, 413, 414) := ⟨by decide +kernel, by decide +kernel, by decide +kernel, by decide +kernel⟩
theorem x_mok_91 : x_mok (5, 218, 0, 23) (539, 421, 422) := ⟨by decide +kernel, by decide +kernel, by decide +kernel, by decide +kernel⟩
theorem x_mok_92 : x_mok (5, 221, 0, 25) (544, 545, 546) := ⟨by decide +kernel, by decide +kernel, by decide +kernel, by decide +kernel⟩
theorem x_mok_93 : x_mok (5, 224, 0, 47) (552, 553, 554) := ⟨by decide +kernel, by decide +kernel, by decide +kernel, by decide +kernel⟩
theorem x_mok_94 : x_mok (5, 228, 0, 55) (564, 565, 566) := ⟨by decide +kernel, by decide +kernel, by decide +kernel, by decide +kernel⟩
theorem x_mok_95 : x_mok (5, 240, 0, 1) (607, 256, 257) := ⟨by decide +kernel, by decide +kernel, by decide +kernel, by decide +kernel⟩
theorem x_mok_96 : x_mok (5, 248, 1, 91) (472, 473, 472) := ⟨by decide +kernel, by decide +kernel, Or.inr trivial, by decide +kernel⟩
theorem x_mok_97 : x_mok (5, 252, 4, 0) (475, 418, 419) := ⟨by decide +kernel, by decide +kernel, by decide +kernel⟩
theorem x_mok_98 : x_mok (5, 258, 5, 0) (476, 477, 478) := ⟨by decide +kernel, by decide +kernel, by decide +kernel⟩
theorem x_mok_99 : x_mok (6, 1, 3, 0) (613, 66, 67) := ⟨by decide +kernel, by decide +kernel, by decide +kernel⟩
theorem x_mok_100 : x_mok (6, 43, 1, 93) (679, 680, 679) := ⟨by decide +kernel, by decide +kernel, Or.inr trivial, by decide +kernel⟩
theorem x_mok_101 : x_mok (6, 47, 0, 94) (710, 712, 19) := ⟨by decide +kernel, by decide +kernel, by decide +kernel, by decide +kernel⟩
theorem x_mok_102 : x_mok (6, 61, 0, 99) (836, 838, 41) := ⟨by decide +kernel, by decide +kernel, by decide +kernel, by decide +kernel⟩
theorem x_mok_103 : x_mok (6, 65, 0, 101) (763, 765, 29) := ⟨by decide +kernel, by decide +kernel, by decide +kernel, by decide +kernel⟩
theorem x_mok_104 : x_mok (6, 69, 0, 102) (751, 753, 26) := ⟨by decide +kernel, by decide +kernel, by decide +kernel, by decide +kernel⟩
theorem x_mok_105 : x_mok (6, 73, 0, 104) (755, 757, 27) := ⟨by decide +kernel, by decide +kernel, by decide +kernel, by decide +kernel⟩
theorem x_mok_106 : x_mok (6, 77, 0, 103) (759, 761, 28) := ⟨by decide +kernel, by decide +kernel, by decide +kernel, by decide +kernel⟩
theorem x_mok_107 : x_mok (6, 80, 0, 105) (767, 769, 30) := ⟨by decide +kernel, by decide +kernel, by decide +kernel, by decide +kernel⟩
theorem x_mok_108 : x_mok (6, 84, 0, 106) (747, 749, 25) := ⟨by decide +kernel, by decide +kernel, by decide +kernel, by decide +kernel⟩
theorem x_mok_109 : x_mok (6, 87, 0, 107) (771, 773, 31) := ⟨by decide +kernel, by decide +kernel, by decide +kernel, by decide +kernel⟩
theorem x_mok_110 : x_mok (6, 94, 0, 108) (743, 745, 24) := ⟨by decide +kernel, by decide +kernel, by decide +kernel, by decide +kernel⟩
theorem x_mok_111 : x_mok (6, 101, 0, 98) (685, 687, 16) := ⟨by decide +kernel, by decide +kernel, by decide +kernel, by decide +kernel⟩
theorem x_mok_112 : x_mok (6, 104, 1, 96) (693, 694, 693) := ⟨by decide +kernel, by decide +kernel, Or.inr trivial, by decide +kernel⟩
theorem x_mok_113 : x_mok (6, 107, 0, 112) (696, 698, 17) := ⟨by decide +kernel, by decide +kernel, by decide +kernel, by decide +kernel⟩
theorem x_mok_114 : x_mok (6, 112, 0, 113) (702, 704, 18) := ⟨by decide +kernel, by decide +kernel, by decide +kernel, by decide +kernel⟩
theorem x_mok_115 : x_mok (6, 115, 0, 116) (718, 720, 20) := ⟨by decide +kernel, by decide +kernel, by decide +kernel, by decide +kernel⟩
theorem x_mok_116 : x_mok (6, 118, 0, 95) (726, 728, 21) := ⟨by decide +kernel, by decide +kernel, by decide +kernel, by decide +kernel⟩
theorem x_mok_117 : x_mok (6, 121, 0, 119) (734, 736, 22) := ⟨by decide +kernel, by decide +kernel, by decide +kernel, by decide +kernel⟩
theorem x_mok_118 : x_mok (6, 126, 0, 110) (739, 741, 23) := ⟨by decide +kernel, by decide +kernel, by decide +kernel, by decide +kernel⟩
theorem x_mok_119 : x_mok (6, 129, 0, 137) (811, 813, 38) := ⟨by decide +kernel, by decide +kernel, by decide +kernel, by decide +kernel⟩
theorem x_mok_120 : x_mok (6, 132, 0, 123) (787, 789, 32) := ⟨by decide +kernel, by decide +kernel, by decide +kernel, by decide +kernel⟩
theorem x_mok_121 : x_mok (6, 135, 0, 140) (791, 793, 33) := ⟨by decide +kernel, by decide +kernel, by decide +kernel, by decide +kernel⟩
theorem x_mok_122 : x_mok (6, 138, 0, 125) (803, 805, 36) := ⟨by decide +kernel, by decide +kernel, by decide +kernel, by decide +kernel⟩
theorem x_mok_123 : x_mok (6, 141, 0, 126) (807, 809, 37) := ⟨by decide +kernel, by decide +kernel, by decide +kernel, by decide +kernel⟩
theorem x_mok_124 : x_mok (6, 147, 0, 124) (815, 817, 39) := ⟨by decide +kernel, by decide +kernel, by decide +kernel, by decide +kernel⟩
theorem x_mok_125 : x_mok (6, 150, 1, 97) (827, 828, 827) := ⟨by decide +kernel, by decide +kernel, Or.inr trivial, by decide +kernel⟩
theorem x_mok_126 : x_mok (6, 157, 0, 100) (832, 834, 40) := ⟨by decide +kernel, by decide +kernel, by decide +kernel, by decide +kernel⟩
theorem x_mok_127 : x_mok (6, 161, 0, 109) (848, 850, 42) := ⟨by decide +kernel, by decide +kernel, by decide +kernel, by decide +kernel⟩
theorem x_mok_128 : x_mok (6, 166, 0, 133) (799, 801, 35) := ⟨by decide +kernel, by decide +kernel, by decide +kernel, by decide +kernel⟩
theorem x_mok_129 : x_mok (6, 171, 0, 139) (795, 797, 34) := ⟨by decide +kernel, by decide +kernel, by decide +kernel, by decide +kernel⟩
theorem x_mok_130 : x_mok (6, 179, 0, 146) (911, 913, 47) := ⟨by decide +kernel, by decide +kernel, by decide +kernel, by decide +kernel⟩
theorem x_mok_131 : x_mok (6, 185, 0, 145) (915, 917, 48) := ⟨by decide +kernel, by decide +kernel, by decide +kernel, by decide +kernel⟩
theorem x_mok_132 : x_mok (6, 195, 0, 147) (907, 909, 46) := ⟨by decide +kernel, by decide +kernel, by decide +kernel, by decide +kernel⟩
theorem x_mok_133 : x_mok (6, 198, 0, 149) (899, 901, 44) := ⟨by decide +kernel, by decide +kernel, by decide +kernel, by decide +kernel⟩
theorem x_mok_134 : x_mok (6, 201, 0, 148) (903, 905, 45) := ⟨by decide +kernel, by decide +kernel, by decide +kernel, by decide +kernel⟩
theorem x_mok_135 : x_mok (6, 207, 0, 150) (919, 921, 49) := ⟨by decide +kernel, by decide +kernel, by decide +kernel, by decide +kernel⟩
theorem x_mok_136 : x_mok (6, 210, 0, 151) (895, 897, 43) := ⟨by decide +kernel, by decide +kernel, by decide +kernel, by decide +kernel⟩
theorem x_mok_137 : x_mok (8, 9, 2, 57) (62, 63, 62) := ⟨by decide +kernel, by decide +kernel, by decide +kernel, by decide +kernel, by decide +kernel⟩
theorem x_mok_138 : x_mok (8, 12, 2, 92) (610, 611, 610) := ⟨by decide +kernel, by decide +kernel, by decide +kernel, by decide +kernel, by decide +kernel⟩
theorem x_mok_139 : x_mok (8, 13, 0, 58) (230, 231, 232) := ⟨by decide +kernel, by decide +kernel, by decide +kernel, by decide +kernel⟩
theorem x_mok_140 : x_mok (8, 17, 0, 111) (675, 676, 677) := ⟨by decide +kernel, by decide +kernel, by decide +kernel, by decide +kernel⟩
theorem x_mok_141 : x_mok (8, 18, 0, 59) (263, 264, 265) := ⟨by decide +kernel, by decide +kernel, by decide +kernel, by decide +kernel⟩
theorem x_mok_142 : x_mok (8, 21, 0, 114) (689, 690, 691) := ⟨by decide +kernel, by decide +kernel, by decide +kernel, by decide +kernel⟩
theorem x_mok_143 : x_mok (8, 22, 0, 60) (280, 281, 282) := ⟨by decide +kernel, by decide +kernel, by decide +kernel, by decide +kernel⟩
theorem x_mok_144 : x_mok (8, 26, 0, 115) (706, 707, 708) := ⟨by decide +kernel, by decide +kernel, by decide +kernel, by decide +kernel⟩
theorem x_mok_145 : x_mok (8, 27, 0, 61) (292, 293, 294) := ⟨by decide +kernel, by decide +kernel, by decide +kernel, by decide +kernel⟩
theorem x_mok_146 : x_mok (8, 30, 0, 117) (714, 715, 716) := ⟨by decide +kernel, by decide +kernel, by decide +kernel, by decide +kernel⟩
theorem x_mok_147 : x_mok (8, 31, 0, 62) (300, 301, 302) := ⟨by decide +kernel, by decide +kernel, by decide +kernel, by decide +kernel⟩
theorem x_mok_148 : x_mok (8, 34, 0, 118) (722, 723, 724) := ⟨by decide +kernel, by decide +kernel, by decide +kernel, by decide +kernel⟩
theorem x_mok_149 : x_mok (8, 35, 0, 63) (313, 314, 315) := ⟨by decide +kernel, by decide +kernel, by decide +kernel, by decide +kernel⟩
theorem x_mok_150 : x_mok (8, 38, 0, 120) (730, 731, 732) := ⟨by decide +kernel, by decide +kernel, by decide +kernel, by decide +kernel⟩
theorem x_mok_151 : x_mok (8, 39, 0, 64) (388, 389, 390) := ⟨by decide +kernel, by decide +kernel, by decide +kernel, by decide +kernel⟩
theorem x_mok_152 : x_mok (8, 42, 0, 121) (775, 776, 777) := ⟨by decide +kernel, by decide +kernel, by decide +kernel, by decide +kernel⟩
theorem x_mok_153 : x_mok (8, 43, 0, 65) (393, 394, 395) := ⟨by decide +kernel, by decide +kernel, by decide +kernel, by decide +kernel⟩
theorem x_mok_154 : x_mok (8, 46, 0, 122) (779, 780, 781) := ⟨by decide +kernel, by decide +kernel, by decide +kernel, by decide +kernel⟩
theorem x_mok_155 : x_mok (8, 47, 0, 66) (397, 398, 399) := ⟨by decide +kernel, by decide +kernel, by decide +kernel, by decide +kernel⟩
theorem x_mok_156 : x_mok (8, 50, 0, 127) (783, 784, 785) := ⟨by decide +kernel, by decide +kernel, by decide +kernel, by decide +kernel⟩
theorem x_mok_157 : x_mok (8, 51, 0, 67) (441, 442, 443) := ⟨by decide +kernel, by decide +kernel, by decide +kernel, by decide +kernel⟩
theorem x_mok_158 : x_mok (8, 55, 0, 128) (819, 820, 821) := ⟨by decide +kernel, by decide +kernel, by decide +kernel, by decide +kernel⟩
theorem x_mok_159 : x_mok (8, 56, 0, 68) (449, 450, 451) := ⟨by decide +kernel, by decide +kernel, by decide +kernel, by decide +kernel⟩
theorem x_mok_160 : x_mok (8, 60, 0, 129) (823, 824, 825) := ⟨by decide +kernel, by decide +kernel, by decide +kernel, by decide +kernel⟩
theorem x_mok_161 : x_mok (8, 61, 0, 69) (479, 480, 481) := ⟨by decide +kernel, by decide +kernel, by decide +kernel, by decide +kernel⟩
theorem x_mok_162 : x_mok (8, 65, 0, 130) (840, 841, 842) := ⟨by decide +kernel, by decide +kernel, by decide +kernel, by decide +kernel⟩
theorem x_mok_163 : x_mok (8, 66, 0, 70) (483, 484, 485) := ⟨by decide +kernel, by decide +kernel, by decide +kernel, by decide +kernel⟩
theorem x_mok_164 : x_mok (8, 70, 0, 131) (844, 845, 846) := ⟨by decide +kernel, by decide +kernel, by decide +kernel, by decide +kernel⟩
theorem x_mok_165 : x_mok (8, 71, 0, 71) (492, 493, 494) := ⟨by decide +kernel, by decide +kernel, by decide +kernel, by decide +kernel⟩
theorem x_mok_166 : x_mok (8, 74, 0, 132) (852, 853, 854) := ⟨by decide +kernel, by decide +kernel, by decide +kernel, by decide +kernel⟩
theorem x_mok_167 : x_mok (8, 75, 0, 72) (501, 502, 503) := ⟨by decide +kernel, by decide +kernel, by decide +kernel, by decide +kernel⟩
theorem x_mok_168 : x_mok (8, 78, 0, 134) (856, 857, 858) := ⟨by decide +kernel, by decide +kernel, by decide +kernel, by decide +kernel⟩
theorem x_mok_169 : x_mok (8, 79, 0, 73) (507, 508, 509) := ⟨by decide +kernel, by decide +kernel, by decide +kernel, by decide +kernel⟩
theorem x_mok_170 : x_mok (8, 82, 0, 135) (861, 862, 863) := ⟨by decide +kernel, by decide +kernel, by decide +kernel, by decide +kernel⟩
theorem x_mok_171 : x_mok (8, 83, 0, 74) (517, 518, 519) := ⟨by decide +kernel, by decide +kernel, by decide +kernel, by decide +kernel⟩
theorem x_mok_172 : x_mok (8, 87, 0, 136) (866, 867, 868) := ⟨by decide +kernel, by decide +kernel, by decide +kernel, by decide +kernel⟩
theorem x_mok_173 : x_mok (8, 88, 0, 75) (525, 526, 527) := ⟨by decide +kernel, by decide +kernel, by decide +kernel, by decide +kernel⟩
theorem x_mok_174 : x_mok (8, 91, 0, 138) (870, 871, 872) := ⟨by decide +kernel, by decide +kernel, by decide +kernel, by decide +kernel⟩
theorem x_mok_175 : x_mok (8, 92, 0, 76) (533, 534, 535) := ⟨by decide +kernel, by decide +kernel, by decide +kernel, by decide +kernel⟩
theorem x_mok_176 : x_mok (8, 95, 0, 141) (874, 875, 876) := ⟨by decide +kernel, by decide +kernel, by decide +kernel, by decide +kernel⟩
theorem x_mok_177 : x_mok (8, 96, 0, 77) (540, 541, 542) := ⟨by decide +kernel, by decide +kernel, by decide +kernel, by decide +kernel⟩
theorem x_mok_178 : x_mok (8, 99, 0, 142) (879, 880, 881) := ⟨by decide +kernel, by decide +kernel, by decide +kernel, by decide +kernel⟩
theorem x_mok_179 : x_mok (8, 100, 0, 78) (548, 549, 550) := ⟨by decide +kernel, by decide +kernel, by decide +kernel, by decide +kernel⟩
theorem x_mok_180 : x_mok (8, 103, 0, 143) (883, 884, 885) := ⟨by decide +kernel, by decide +kernel, by decide +kernel, by decide +kernel⟩
theorem x_mok_181 : x_mok (8, 104, 0, 79) (556, 557, 558) := ⟨by decide +kernel, by decide +kernel, by decide +kernel, by decide +kernel⟩
theorem x_mok_182 : x_mok (8, 107, 0, 144) (887, 888, 889) := ⟨by decide +kernel, by decide +kernel, by decide +kernel, by decide +kernel⟩
theorem x_mok_183 : x_mok (8, 108, 0, 80) (560, 561, 562) := ⟨by decide +kernel, by decide +kernel, by decide +kernel, by decide +kernel⟩
theorem x_mok_184 : x_mok (8, 111, 0, 152) (891, 892, 893) := ⟨by decide +kernel, by decide +kernel, by decide +kernel, by decide +kernel⟩
theorem x_mok_185 : x_mok (8, 112, 0, 81) (603, 604, 605) := ⟨by decide +kernel, by decide +kernel, by decide +kernel, by decide +kernel⟩
theorem x_mok_186 : x_mok (8, 115, 0, 153) (923, 924, 925) := ⟨by decide +kernel, by decide +kernel, by decide +kernel, by decide +kernel⟩
def x_mls_0 : List (Nat × Nat × Nat × Nat) := [(0, 3, 3, 0), (0, 37, 0, 2), (0, 41, 0, 3), (0, 45, 0, 6), (0, 49, 0, 7), (0, 52, 0, 9), (0, 55, 0, 5), (0, 58, 0, 15), (0, 61, 0, 19), (0, 65, 1, 154), (0, 70, 0, 20), (0, 73, 0, 14), (0, 76, 0, 22), (0, 80, 4, 0), (0, 86, 0, 23), (1, 3, 3, 0), (1, 17, 2, 0), (1, 22, 0, 28), (1, 25, 0, 1), (2, 3, 3, 0)]
theorem x_mls_ok_0 : ∀ q ∈ x_mls_0, ∃ p, x_mok q p := List.forall_mem_cons.mpr ⟨⟨(73, 66, 67), x_mok_0⟩, List.forall_mem_cons.mpr ⟨⟨(259, 261, 2), x_mok_1⟩, List.forall_mem_cons.mpr ⟨⟨(308, 285, 286), x_mok_2⟩, List.forall_mem_cons.mpr ⟨⟨(321, 271, 272), x_mok_3⟩, List.forall_mem_cons.mpr ⟨⟨(601, 277, 278), x_mok_4⟩, List.forall_mem_cons.mpr ⟨⟨(602, 297, 298), x_mok_5⟩, List.forall_mem_cons.mpr ⟨⟨(346, 347, 348), x_mok_6⟩, List.forall_mem_cons.mpr ⟨⟨(362, 355, 356), x_mok_7⟩, List.forall_mem_cons.mpr ⟨⟨(432, 434, 9), x_mok_8⟩, List.forall_mem_cons.mpr ⟨⟨(436, 376, 436), x_mok_9⟩, List.forall_mem_cons.mpr ⟨⟨(411, 318, 319), x_mok_10⟩, List.forall_mem_cons.mpr ⟨⟨(416, 343, 344), x_mok_11⟩, List.forall_mem_cons.mpr ⟨⟨(412, 413, 414), x_mok_12⟩, List.forall_mem_cons.mpr ⟨⟨(417, 418, 419), x_mok_13⟩, List.forall_mem_cons.mpr ⟨⟨(420, 421, 422), x_mok_14⟩, List.forall_mem_cons.mpr ⟨⟨(115, 66, 67), x_mok_15⟩, List.forall_mem_cons.mpr ⟨⟨(118, 71, 118), x_mok_16⟩, List.forall_mem_cons.mpr ⟨⟨(251, 253, 1), x_mok_17⟩, List.forall_mem_cons.mpr ⟨⟨(255, 256, 257), x_mok_18⟩, List.forall_mem_cons.mpr ⟨⟨(189, 66, 67), x_mok_19⟩, fun _ h => absurd h List.not_mem_nil⟩⟩⟩⟩⟩⟩⟩⟩⟩⟩⟩⟩⟩⟩⟩⟩⟩⟩⟩⟩
def x_mls_1 : List (Nat × Nat × Nat × Nat) := [(2, 26, 0, 39), (2, 30, 0, 42), (2, 34, 0, 31), (2, 38, 0, 41), (2, 48, 0, 43), (2, 51, 0, 5), (2, 55, 0, 40), (2, 59, 0, 15), (2, 72, 0, 16), (2, 79, 0, 36), (2, 85, 4, 0), (2, 91, 0, 12), (2, 94, 0, 14), (2, 98, 0, 44), (2, 102, 0, 45), (2, 106, 1, 154), (3, 3, 3, 0), (3, 22, 0, 49), (3, 29, 0, 51), (3, 36, 0, 50)]
theorem x_mls_ok_1 : ∀ q ∈ x_mls_1, ∃ p, x_mok q p := List.forall_mem_cons.mpr ⟨⟨(334, 336, 3), x_mok_20⟩, List.forall_mem_cons.mpr ⟨⟨(363, 365, 5), x_mok_21⟩, List.forall_mem_cons.mpr ⟨⟨(330, 331, 332), x_mok_22⟩, List.forall_mem_cons.mpr ⟨⟨(381, 383, 8), x_mok_23⟩, List.forall_mem_cons.mpr ⟨⟨(464, 466, 10), x_mok_24⟩, List.forall_mem_cons.mpr ⟨⟨(491, 347, 348), x_mok_25⟩, List.forall_mem_cons.mpr ⟨⟨(350, 352, 4), x_mok_26⟩, List.forall_mem_cons.mpr ⟨⟨(354, 355, 356), x_mok_27⟩, List.forall_mem_cons.mpr ⟨⟨(358, 359, 360), x_mok_28⟩, List.forall_mem_cons.mpr ⟨⟨(500, 488, 489), x_mok_29⟩, List.forall_mem_cons.mpr ⟨⟨(516, 418, 419), x_mok_30⟩, List.forall_mem_cons.mpr ⟨⟨(338, 339, 340), x_mok_31⟩, List.forall_mem_cons.mpr ⟨⟨(342, 343, 344), x_mok_32⟩, List.forall_mem_cons.mpr ⟨⟨(367, 369, 6), x_mok_33⟩, List.forall_mem_cons.mpr ⟨⟨(371, 373, 7), x_mok_34⟩, List.forall_mem_cons.mpr ⟨⟨(375, 376, 375), x_mok_35⟩, List.forall_mem_cons.mpr ⟨⟨(132, 66, 67), x_mok_36⟩, List.forall_mem_cons.mpr ⟨⟨(577, 579, 12), x_mok_37⟩, List.forall_mem_cons.mpr ⟨⟨(581, 583, 13), x_mok_38⟩, List.forall_mem_cons.mpr ⟨⟨(589, 591, 15), x_mok_39⟩, fun _ h => absurd h List.not_mem_nil⟩⟩⟩⟩⟩⟩⟩⟩⟩⟩⟩⟩⟩⟩⟩⟩⟩⟩⟩⟩
def x_mls_2 : List (Nat × Nat × Nat × Nat) := [(3, 40, 0, 52), (3, 44, 1, 53), (4, 3, 3, 0), (4, 11, 2, 0), (4, 18, 0, 1), (4, 37, 0, 56), (4, 44, 0, 48), (4, 57, 6, 84), (4, 60, 0, 11), (5, 1, 3, 0), (5, 9, 2, 0), (5, 18, 2, 26), (5, 25, 2, 46), (5, 32, 2, 54), (5, 39, 2, 30), (5, 44, 1, 82), (5, 49, 0, 83), (5, 53, 0, 27), (5, 67, 1, 85), (5, 71, 0, 6)]
theorem x_mls_ok_2 : ∀ q ∈ x_mls_2, ∃ p, x_mok q p := List.forall_mem_cons.mpr ⟨⟨(585, 587, 14), x_mok_40⟩, List.forall_mem_cons.mpr ⟨⟨(593, 594, 593), x_mok_41⟩, List.forall_mem_cons.mpr ⟨⟨(164, 66, 67), x_mok_42⟩, List.forall_mem_cons.mpr ⟨⟨(166, 71, 166), x_mok_43⟩, List.forall_mem_cons.mpr ⟨⟨(568, 256, 257), x_mok_44⟩, List.forall_mem_cons.mpr ⟨⟨(569, 571, 11), x_mok_45⟩, List.forall_mem_cons.mpr ⟨⟨(573, 574, 575), x_mok_46⟩, List.forall_mem_cons.mpr ⟨⟨(596, 238, 596), x_mok_47⟩, List.forall_mem_cons.mpr ⟨⟨(597, 598, 599), x_mok_48⟩, List.forall_mem_cons.mpr ⟨⟨(65, 66, 67), x_mok_49⟩, List.forall_mem_cons.mpr ⟨⟨(70, 71, 70), x_mok_50⟩, List.forall_mem_cons.mpr ⟨⟨(112, 113, 112), x_mok_51⟩, List.forall_mem_cons.mpr ⟨⟨(129, 130, 129), x_mok_52⟩, List.forall_mem_cons.mpr ⟨⟨(161, 162, 161), x_mok_53⟩, List.forall_mem_cons.mpr ⟨⟨(186, 187, 186), x_mok_54⟩, List.forall_mem_cons.mpr ⟨⟨(234, 235, 234), x_mok_55⟩, List.forall_mem_cons.mpr ⟨⟨(243, 245, 0), x_mok_56⟩, List.forall_mem_cons.mpr ⟨⟨(247, 248, 249), x_mok_57⟩, List.forall_mem_cons.mpr ⟨⟨(267, 268, 267), x_mok_58⟩, List.forall_mem_cons.mpr ⟨⟨(270, 271, 272), x_mok_59⟩, fun _ h => absurd h List.not_mem_nil⟩⟩⟩⟩⟩⟩⟩⟩⟩⟩⟩⟩⟩⟩⟩⟩⟩⟩⟩⟩
def x_mls_3 : List (Nat × Nat × Nat × Nat) := [(5, 80, 0, 7), (5, 83, 0, 3), (5, 86, 0, 8), (5, 90, 1, 84), (5, 97, 0, 9), (5, 100, 0, 4), (5, 103, 0, 10), (5, 113, 0, 20), (5, 116, 1, 88), (5, 119, 0, 32), (5, 123, 1, 89), (5, 127, 0, 5), (5, 130, 0, 13), (5, 134, 0, 31), (5, 138, 0, 12), (5, 141, 0, 24), (5, 145, 0, 21), (5, 148, 0, 18), (5, 157, 0, 33), (5, 161, 0, 29)]
theorem x_mls_ok_3 : ∀ q ∈ x_mls_3, ∃ p, x_mok q p := List.forall_mem_cons.mpr ⟨⟨(276, 277, 278), x_mok_60⟩, List.forall_mem_cons.mpr ⟨⟨(284, 285, 286), x_mok_61⟩, List.forall_mem_cons.mpr ⟨⟨(288, 289, 290), x_mok_62⟩, List.forall_mem_cons.mpr ⟨⟨(237, 238, 237), x_mok_63⟩, List.forall_mem_cons.mpr ⟨⟨(296, 297, 298), x_mok_64⟩, List.forall_mem_cons.mpr ⟨⟨(304, 305, 306), x_mok_65⟩, List.forall_mem_cons.mpr ⟨⟨(309, 310, 311), x_mok_66⟩, List.forall_mem_cons.mpr ⟨⟨(317, 318, 319), x_mok_67⟩, List.forall_mem_cons.mpr ⟨⟨(322, 323, 322), x_mok_68⟩, List.forall_mem_cons.mpr ⟨⟨(326, 327, 328), x_mok_69⟩, List.forall_mem_cons.mpr ⟨⟨(385, 386, 385), x_mok_70⟩, List.forall_mem_cons.mpr ⟨⟨(392, 347, 348), x_mok_71⟩, List.forall_mem_cons.mpr ⟨⟨(401, 402, 403), x_mok_72⟩, List.forall_mem_cons.mpr ⟨⟨(405, 331, 332), x_mok_73⟩, List.forall_mem_cons.mpr ⟨⟨(406, 339, 340), x_mok_74⟩, List.forall_mem_cons.mpr ⟨⟨(407, 408, 409), x_mok_75⟩, List.forall_mem_cons.mpr ⟨⟨(424, 425, 426), x_mok_76⟩, List.forall_mem_cons.mpr ⟨⟨(428, 429, 430), x_mok_77⟩, List.forall_mem_cons.mpr ⟨⟨(437, 438, 439), x_mok_78⟩, List.forall_mem_cons.mpr ⟨⟨(445, 446, 447), x_mok_79⟩, fun _ h => absurd h List.not_mem_nil⟩⟩⟩⟩⟩⟩⟩⟩⟩⟩⟩⟩⟩⟩⟩⟩⟩⟩⟩⟩
def x_mls_4 : List (Nat × Nat × Nat × Nat) := [(5, 164, 1, 86), (5, 167, 1, 87), (5, 172, 0, 34), (5, 177, 1, 90), (5, 189, 0, 36), (5, 193, 0, 37), (5, 199, 0, 14), (5, 202, 0, 38), (5, 205, 0, 35), (5, 209, 0, 17), (5, 212, 0, 22), (5, 218, 0, 23), (5, 221, 0, 25), (5, 224, 0, 47), (5, 228, 0, 55), (5, 240, 0, 1), (5, 248, 1, 91), (5, 252, 4, 0), (5, 258, 5, 0), (6, 1, 3, 0)]
theorem x_mls_ok_4 : ∀ q ∈ x_mls_4, ∃ p, x_mok q p := List.forall_mem_cons.mpr ⟨⟨(453, 454, 453), x_mok_80⟩, List.forall_mem_cons.mpr ⟨⟨(456, 457, 456), x_mok_81⟩, List.forall_mem_cons.mpr ⟨⟨(460, 461, 462), x_mok_82⟩, List.forall_mem_cons.mpr ⟨⟨(469, 470, 469), x_mok_83⟩, List.forall_mem_cons.mpr ⟨⟨(487, 488, 489), x_mok_84⟩, List.forall_mem_cons.mpr ⟨⟨(496, 497, 498), x_mok_85⟩, List.forall_mem_cons.mpr ⟨⟨(506, 343, 344), x_mok_86⟩, List.forall_mem_cons.mpr ⟨⟨(511, 512, 513), x_mok_87⟩, List.forall_mem_cons.mpr ⟨⟨(521, 522, 523), x_mok_88⟩, List.forall_mem_cons.mpr ⟨⟨(529, 530, 531), x_mok_89⟩, List.forall_mem_cons.mpr ⟨⟨(537, 413, 414), x_mok_90⟩, List.forall_mem_cons.mpr ⟨⟨(539, 421, 422), x_mok_91⟩, List.forall_mem_cons.mpr ⟨⟨(544, 545, 546), x_mok_92⟩, List.forall_mem_cons.mpr ⟨⟨(552, 553, 554), x_mok_93⟩, List.forall_mem_cons.mpr ⟨⟨(564, 565, 566), x_mok_94⟩, List.forall_mem_cons.mpr ⟨⟨(607, 256, 257), x_mok_95⟩, List.forall_mem_cons.mpr ⟨⟨(472, 473, 472), x_mok_96⟩, List.forall_mem_cons.mpr ⟨⟨(475, 418, 419), x_mok_97⟩, List.forall_mem_cons.mpr ⟨⟨(476, 477, 478), x_mok_98⟩, List.forall_mem_cons.mpr ⟨⟨(613, 66, 67), x_mok_99⟩, fun _ h => absurd h List.not_mem_nil⟩⟩⟩⟩⟩⟩⟩⟩⟩⟩⟩⟩⟩⟩⟩⟩⟩⟩⟩⟩
def x_mls_5 : List (Nat × Nat × Nat × Nat) := [(6, 43, 1, 93), (6, 47, 0, 94), (6, 61, 0, 99), (6, 65, 0, 101), (6, 69, 0, 102), (6, 73, 0, 104), (6, 77, 0, 103), (6, 80, 0, 105), (6, 84, 0, 106), (6, 87, 0, 107), (6, 94, 0, 108), (6, 101, 0, 98), (6, 104, 1, 96), (6, 107, 0, 112), (6, 112, 0, 113), (6, 115, 0, 116), (6, 118, 0, 95), (6, 121, 0, 119), (6, 126, 0, 110), (6, 129, 0, 137)]
theorem x_mls_ok_5 : ∀ q ∈ x_mls_5, ∃ p, x_mok q p := List.forall_mem_cons.mpr ⟨⟨(679, 680, 679), x_mok_100⟩, List.forall_mem_cons.mpr ⟨⟨(710, 712, 19), x_mok_101⟩, List.forall_mem_cons.mpr ⟨⟨(836, 838, 41), x_mok_102⟩, List.forall_mem_cons.mpr ⟨⟨(763, 765, 29), x_mok_103⟩, List.forall_mem_cons.mpr ⟨⟨(751, 753, 26), x_mok_104⟩, List.forall_mem_cons.mpr ⟨⟨(755, 757, 27), x_mok_105⟩, List.forall_mem_cons.mpr ⟨⟨(759, 761, 28), x_mok_106⟩, List.forall_mem_cons.mpr ⟨⟨(767, 769, 30), x_mok_107⟩, List.forall_mem_cons.mpr ⟨⟨(747, 749, 25), x_mok_108⟩, List.forall_mem_cons.mpr ⟨⟨(771, 773, 31), x_mok_109⟩, List.forall_mem_cons.mpr ⟨⟨(743, 745, 24), x_mok_110⟩, List.forall_mem_cons.mpr ⟨⟨(685, 687, 16), x_mok_111⟩, List.forall_mem_cons.mpr ⟨⟨(693, 694, 693), x_mok_112⟩, List.forall_mem_cons.mpr ⟨⟨(696, 698, 17), x_mok_113⟩, List.forall_mem_cons.mpr ⟨⟨(702, 704, 18), x_mok_114⟩, List.forall_mem_cons.mpr ⟨⟨(718, 720, 20), x_mok_115⟩, List.forall_mem_cons.mpr ⟨⟨(726, 728, 21), x_mok_116⟩, List.forall_mem_cons.mpr ⟨⟨(734, 736, 22), x_mok_117⟩, List.forall_mem_cons.mpr ⟨⟨(739, 741, 23), x_mok_118⟩, List.forall_mem_cons.mpr ⟨⟨(811, 813, 38), x_mok_119⟩, fun _ h => absurd h List.not_mem_nil⟩⟩⟩⟩⟩⟩⟩⟩⟩⟩⟩⟩⟩⟩⟩⟩⟩⟩⟩⟩
def x_mls_6 : List (Nat × Nat × Nat × Nat) := [(6, 132, 0, 123), (6, 135, 0, 140), (6, 138, 0, 125), (6, 141, 0, 126), (6, 147, 0, 124), (6, 150, 1, 97), (6, 157, 0, 100), (6, 161, 0, 109), (6, 166, 0, 133), (6, 171, 0, 139), (6, 179, 0, 146), (6, 185, 0, 145), (6, 195, 0, 147), (6, 198, 0, 149), (6, 201, 0, 148), (6, 207, 0, 150), (6, 210, 0, 151), (8, 9, 2, 57), (8, 12, 2, 92), (8, 13, 0, 58)]
theorem x_mls_ok_6 : ∀ q ∈ x_mls_6, ∃ p, x_mok q p := List.forall_mem_cons.mpr ⟨⟨(787, 789, 32), x_mok_120⟩, List.forall_mem_cons.mpr ⟨⟨(791, 793, 33), x_mok_121⟩, List.forall_mem_cons.mpr ⟨⟨(803, 805, 36), x_mok_122⟩, List.forall_mem_cons.mpr ⟨⟨(807, 809, 37), x_mok_123⟩, List.forall_mem_cons.mpr ⟨⟨(815, 817, 39), x_mok_124⟩, List.forall_mem_cons.mpr ⟨⟨(827, 828, 827), x_mok_125⟩, List.forall_mem_cons.mpr ⟨⟨(832, 834, 40), x_mok_126⟩, List.forall_mem_cons.mpr ⟨⟨(848, 850, 42), x_mok_127⟩, List.forall_mem_cons.mpr ⟨⟨(799, 801, 35), x_mok_128⟩, List.forall_mem_cons.mpr ⟨⟨(795, 797, 34), x_mok_129⟩, List.forall_mem_cons.mpr ⟨⟨(911, 913, 47), x_mok_130⟩, List.forall_mem_cons.mpr ⟨⟨(915, 917, 48), x_mok_131⟩, List.forall_mem_cons.mpr ⟨⟨(907, 909, 46), x_mok_132⟩, List.forall_mem_cons.mpr ⟨⟨(899, 901, 44), x_mok_133⟩, List.forall_mem_cons.mpr ⟨⟨(903, 905, 45), x_mok_134⟩, List.forall_mem_cons.mpr ⟨⟨(919, 921, 49), x_mok_135⟩, List.forall_mem_cons.mpr ⟨⟨(895, 897, 43), x_mok_136⟩, List.forall_mem_cons.mpr ⟨⟨(62, 63, 62), x_mok_137⟩, List.forall_mem_cons.mpr ⟨⟨(610, 611, 610), x_mok_138⟩, List.forall_mem_cons.mpr ⟨⟨(230, 231, 232), x_mok_139⟩, fun _ h => absurd h List.not_mem_nil⟩⟩⟩⟩⟩⟩⟩⟩⟩⟩⟩⟩⟩⟩⟩⟩⟩⟩⟩⟩
def x_mls_7 : List (Nat × Nat × Nat × Nat) := [(8, 17, 0, 111), (8, 18, 0, 59), (8, 21, 0, 114), (8, 22, 0, 60), (8, 26, 0, 115), (8, 27, 0, 61), (8, 30, 0, 117), (8, 31, 0, 62), (8, 34, 0, 118), (8, 35, 0, 63), (8, 38, 0, 120), (8, 39, 0, 64), (8, 42, 0, 121), (8, 43, 0, 65), (8, 46, 0, 122), (8, 47, 0, 66), (8, 50, 0, 127), (8, 51, 0, 67), (8, 55, 0, 128), (8, 56, 0, 68)]
theorem x_mls_ok_7 : ∀ q ∈ x_mls_7, ∃ p, x_mok q p := List.forall_mem_cons.mpr ⟨⟨(675, 676, 677), x_mok_140⟩, List.forall_mem_cons.mpr ⟨⟨(263, 264, 265), x_mok_141⟩, List.forall_mem_cons.mpr ⟨⟨(689, 690, 691), x_mok_142⟩, List.forall_mem_cons.mpr ⟨⟨(280, 281, 282), x_mok_143⟩, List.forall_mem_cons.mpr ⟨⟨(706, 707, 708), x_mok_144⟩, List.forall_mem_cons.mpr ⟨⟨(292, 293, 294), x_mok_145⟩, List.forall_mem_cons.mpr ⟨⟨(714, 715, 716), x_mok_146⟩, List.forall_mem_cons.mpr ⟨⟨(300, 301, 302), x_mok_147⟩, List.forall_mem_cons.mpr ⟨⟨(722, 723, 724), x_mok_148⟩, List.forall_mem_cons.mpr ⟨⟨(313, 314, 315), x_mok_149⟩, List.forall_mem_cons.mpr ⟨⟨(730, 731, 732), x_mok_150⟩, List.forall_mem_cons.mpr ⟨⟨(388, 389, 390), x_mok_151⟩, List.forall_mem_cons.mpr ⟨⟨(775, 776, 777), x_mok_152⟩, List.forall_mem_cons.mpr ⟨⟨(393, 394, 395), x_mok_153⟩, List.forall_mem_cons.mpr ⟨⟨(779, 780, 781), x_mok_154⟩, List.forall_mem_cons.mpr ⟨⟨(397, 398, 399), x_mok_155⟩, List.forall_mem_cons.mpr ⟨⟨(783, 784, 785), x_mok_156⟩, List.forall_mem_cons.mpr ⟨⟨(441, 442, 443), x_mok_157⟩, List.forall_mem_cons.mpr ⟨⟨(819, 820, 821), x_mok_158⟩, List.forall_mem_cons.mpr ⟨⟨(449, 450, 451), x_mok_159⟩, fun _ h => absurd h List.not_mem_nil⟩⟩⟩⟩⟩⟩⟩⟩⟩⟩⟩⟩⟩⟩⟩⟩⟩⟩⟩⟩
def x_mls_8 : List (Nat × Nat × Nat × Nat) := [(8, 60, 0, 129), (8, 61, 0, 69), (8, 65, 0, 130), (8, 66, 0, 70), (8, 70, 0, 131), (8, 71, 0, 71), (8, 74, 0, 132), (8, 75, 0, 72), (8, 78, 0, 134), (8, 79, 0, 73), (8, 82, 0, 135), (8, 83, 0, 74), (8, 87, 0, 136), (8, 88, 0, 75), (8, 91, 0, 138), (8, 92, 0, 76), (8, 95, 0, 141), (8, 96, 0, 77), (8, 99, 0, 142), (8, 100, 0, 78)]
theorem x_mls_ok_8 : ∀ q ∈ x_mls_8, ∃ p, x_mok q p := List.forall_mem_cons.mpr ⟨⟨(823, 824, 825), x_mok_160⟩, List.forall_mem_cons.mpr ⟨⟨(479, 480, 481), x_mok_161⟩, List.forall_mem_cons.mpr ⟨⟨(840, 841, 842), x_mok_162⟩, List.forall_mem_cons.mpr ⟨⟨(483, 484, 485), x_mok_163⟩, List.forall_mem_cons.mpr ⟨⟨(844, 845, 846), x_mok_164⟩, List.forall_mem_cons.mpr ⟨⟨(492, 493, 494), x_mok_165⟩, List.forall_mem_cons.mpr ⟨⟨(852, 853, 854), x_mok_166⟩, List.forall_mem_cons.mpr ⟨⟨(501, 502, 503), x_mok_167⟩, List.forall_mem_cons.mpr ⟨⟨(856, 857, 858), x_mok_168⟩, List.forall_mem_cons.mpr ⟨⟨(507, 508, 509), x_mok_169⟩, List.forall_mem_cons.mpr ⟨⟨(861, 862, 863), x_mok_170⟩, List.forall_mem_cons.mpr ⟨⟨(517, 518, 519), x_mok_171⟩, List.forall_mem_cons.mpr ⟨⟨(866, 867, 868), x_mok_172⟩, List.forall_mem_cons.mpr ⟨⟨(525, 526, 527), x_mok_173⟩, List.forall_mem_cons.mpr ⟨⟨(870, 871, 872), x_mok_174⟩, List.forall_mem_cons.mpr ⟨⟨(533, 534, 535), x_mok_175⟩, List.forall_mem_cons.mpr ⟨⟨(874, 875, 876), x_mok_176⟩, List.forall_mem_cons.mpr ⟨⟨(540, 541, 542), x_mok_177⟩, List.forall_mem_cons.mpr ⟨⟨(879, 880, 881), x_mok_178⟩, List.forall_mem_cons.mpr ⟨⟨(548, 549, 550), x_mok_179⟩, fun _ h => absurd h List.not_mem_nil⟩⟩⟩⟩⟩⟩⟩⟩⟩⟩⟩⟩⟩⟩⟩⟩⟩⟩⟩⟩
def x_mls_9 : List (Nat × Nat × Nat × Nat) := [(8, 103, 0, 143), (8, 104, 0, 79), (8, 107, 0, 144), (8, 108, 0, 80), (8, 111, 0, 152), (8, 112, 0, 81), (8, 115, 0, 153)]
theorem x_mls_ok_9 : ∀ q ∈ x_mls_9, ∃ p, x_mok q p := List.forall_mem_cons.mpr ⟨⟨(883, 884, 885), x_mok_180⟩, List.forall_mem_cons.mpr ⟨⟨(556, 557, 558), x_mok_181⟩, List.forall_mem_cons.mpr ⟨⟨(887, 888, 889), x_mok_182⟩, List.forall_mem_cons.mpr ⟨⟨(560, 561, 562), x_mok_183⟩, List.forall_mem_cons.mpr ⟨⟨(891, 892, 893), x_mok_184⟩, List.forall_mem_cons.mpr ⟨⟨(603, 604, 605), x_mok_185⟩, List.forall_mem_cons.mpr ⟨⟨(923, 924, 925), x_mok_186⟩, fun _ h => absurd h List.not_mem_nil⟩⟩⟩⟩⟩⟩⟩
theorem x_mls_ok : ∀ q ∈ x_mls, ∃ p, x_mok q p := by
  rw [show x_mls = x_mls_0 ++ (x_mls_1 ++ (x_mls_2 ++ (x_mls_3 ++ (x_mls_4 ++ (x_mls_5 ++ (x_mls_6 ++ (x_mls_7 ++ (x_mls_8 ++ (x_mls_9))))))))) from rfl]
  exact List.forall_mem_append.mpr ⟨x_mls_ok_0, List.forall_mem_append.mpr ⟨x_mls_ok_1, List.forall_mem_append.mpr ⟨x_mls_ok_2, List.forall_mem_append.mpr ⟨x_mls_ok_3, List.forall_mem_append.mpr ⟨x_mls_ok_4, List.forall_mem_append.mpr ⟨x_mls_ok_5, List.forall_mem_append.mpr ⟨x_mls_ok_6, List.forall_mem_append.mpr ⟨x_mls_ok_7, List.forall_mem_append.mpr ⟨x_mls_ok_8, x_mls_ok_9⟩⟩⟩⟩⟩⟩⟩⟩⟩
def x_T (c : Nat) : u_T := match c with | 0 => TX0 | 1 => TX1 | 2 => TX2 | 3 => TX3 | 4 => TX4 | 5 => TX5 | _ => TX6
def x_ty (c : Nat) : Nat → FieldType := match c with | 0 => tyX0 | 1 => tyX1 | 2 => tyX2 | 3 => tyX3 | 4 => tyX4 | 5 => tyX5 | _ => tyX6
def x_fzs : List ((Nat × Nat × Nat × Nat) × Nat) := [((0, 9, 0, 2), 79), ((0, 15, 0, 4), 84), ((0, 19, 0, 5), 86), ((0, 22, 0, 6), 88), ((0, 25, 0, 7), 91), ((0, 28, 0, 0), 74), ((0, 31, 0, 1), 77), ((0, 34, 0, 3), 81), ((1, 11, 1, 0), 119), ((1, 18, 1, 1), 120), ((2, 11, 2, 0), 192), ((2, 16, 2, 1), 193), ((2, 20, 2, 2), 194), ((2, 23, 2, 3), 195), ((2, 42, 0, 3), 83), ((2, 62, 0, 0), 76), ((2, 65, 2, 5), 198), ((2, 69, 2, 4), 197), ((2, 75, 0, 6), 90), ((3, 9, 3, 0), 133), ((3, 15, 3, 1), 134), ((3, 19, 3, 5), 144), ((3, 26, 3, 2), 137), ((3, 33, 3, 3), 140), ((3, 47, 3, 4), 142), ((4, 12, 4, 0), 167), ((4, 22, 4, 1), 169), ((4, 26, 4, 2), 171), ((4, 29, 4, 3), 173), ((4, 32, 3, 1), 135), ((4, 41, 3, 5), 143), ((4, 48, 3, 2), 138), ((4, 51, 3, 3), 139), ((4, 54, 3, 4), 141), ((5, 10, 5, 0), 214), ((5, 19, 5, 1), 215), ((5, 26, 5, 2), 216), ((5, 33, 5, 3), 217), ((5, 40, 5, 4), 218), ((5, 57, 0, 0), 75), ((5, 61, 0, 1), 78), ((5, 64, 0, 2), 80), ((5, 76, 0, 3), 82), ((5, 93, 0, 6), 89), ((5, 107, 0, 4), 85), ((5, 110, 0, 5), 87), ((5, 151, 1, 1), 121), ((5, 154, 3, 1), 136), ((5, 181, 2, 3), 196), ((5, 185, 2, 5), 199), ((5, 232, 4, 3), 174), ((5, 236, 4, 2), 172), ((5, 239, 4, 0), 168), ((5, 243, 4, 1), 170), ((6, 7, 6, 0), 614), ((6, 13, 6, 1), 615), ((6, 16, 6, 3), 617), ((6, 19, 6, 4), 618), ((6, 23, 6, 11), 625), ((6, 27, 6, 14), 628), ((6, 30, 6, 15), 629), ((6, 33, 6, 17), 631), ((6, 36, 6, 12), 626), ((6, 40, 6, 13), 627), ((6, 51, 6, 2), 616), ((6, 54, 6, 18), 632), ((6, 58, 6, 19), 633), ((6, 91, 6, 16), 630), ((6, 144, 6, 5), 619), ((6, 176, 6, 6), 620), ((6, 182, 6, 7), 621), ((6, 189, 6, 8), 622), ((6, 192, 6, 9), 623), ((6, 204, 6, 10), 624)]
def x_fckB (z : (Nat × Nat × Nat × Nat) × Nat) : Bool := decide (lw_tbl[z.2]? = some (.fieldLink (x_cn z.1.1) z.1.2.1 (x_T z.1.2.2.1 z.1.2.2.2).1 (x_T z.1.2.2.1 z.1.2.2.2).2.1 (x_T z.1.2.2.1 z.1.2.2.2).2.2.1)) && decide (z.1.2.2.1 < 7) && decide (z.1.2.2.2 < x_fn z.1.2.2.1)
theorem x_fok : x_fzs.all x_fckB = true := by decide +kernel
theorem x_fzl : x_fls = x_fzs.map (fun z => z.1) := by decide +kernel
theorem x_cls : ∀ c, c < 7 → vwCl[c]? = some (x_cn c, x_T c, x_fn c) := by
  intro c hc
  rcases (show c = 0 ∨ c = 1 ∨ c = 2 ∨ c = 3 ∨ c = 4 ∨ c = 5 ∨ c = 6 by omega) with rfl | rfl | rfl | rfl | rfl | rfl | rfl <;> rfl
theorem x_lays : ∀ c, c < 7 → ∀ w ∈ u_ws (x_cn c) (x_T c) (x_fn c), w ∈ lw_tbl := by decide +kernel
theorem x_tys : ∀ c, c < 7 → ∀ k, k < x_fn c → parseFieldDescriptor (x_T c k).2.2.1 = some (x_ty c k) := by decide +kernel
theorem x_nms : ∀ c, c < 7 → ∀ a, a < x_fn c → ∀ b, b < x_fn c → a ≠ b → (x_T c a).2.1 ≠ (x_T c b).2.1 := by decide +kernel
/-- the kind that the table of fields tells is the kind of its type -/
theorem x_fks : ∀ c, c < 7 → ∀ k, k < x_fn c → ((x_fk c)[k]? = some ((match x_ty c k with | .int => 0 | .long => 1 | _ => 2), (x_T c k).2.2.2)) ∧ (x_ty c k = .int ∨ x_ty c k = .long ∨ (∃ t, x_ty c k = .array t) ∨ (∃ t, x_ty c k = .object t)) ∧ (x_T c k).1 = x_cn c := by
  intro c hc
  rcases (show c = 0 ∨ c = 1 ∨ c = 2 ∨ c = 3 ∨ c = 4 ∨ c = 5 ∨ c = 6 by omega) with rfl | rfl | rfl | rfl | rfl | rfl | rfl <;> intro k hk
  · rcases (show k = 0 ∨ k = 1 ∨ k = 2 ∨ k = 3 ∨ k = 4 ∨ k = 5 ∨ k = 6 ∨ k = 7 by exact (by have h : k < 8 := hk; omega)) with rfl | rfl | rfl | rfl | rfl | rfl | rfl | rfl
    · exact ⟨by decide +kernel, Or.inl rfl, by decide +kernel⟩
    · exact ⟨by decide +kernel, Or.inl rfl, by decide +kernel⟩
    · exact ⟨by decide +kernel, Or.inl rfl, by decide +kernel⟩
    · exact ⟨by decide +kernel, Or.inl rfl, by decide +kernel⟩
    · exact ⟨by decide +kernel, Or.inr (Or.inr (Or.inl ⟨_, rfl⟩)), by decide +kernel⟩
    · exact ⟨by decide +kernel, Or.inr (Or.inr (Or.inl ⟨_, rfl⟩)), by decide +kernel⟩
    · exact ⟨by decide +kernel, Or.inr (Or.inr (Or.inl ⟨_, rfl⟩)), by decide +kernel⟩
    · exact ⟨by decide +kernel, Or.inr (Or.inr (Or.inl ⟨_, rfl⟩)), by decide +kernel⟩
  · rcases (show k = 0 ∨ k = 1 by exact (by have h : k < 2 := hk; omega)) with rfl | rfl
    · exact ⟨by decide +kernel, Or.inr (Or.inr (Or.inl ⟨_, rfl⟩)), by decide +kernel⟩
    · exact ⟨by decide +kernel, Or.inl rfl, by decide +kernel⟩
  · rcases (show k = 0 ∨ k = 1 ∨ k = 2 ∨ k = 3 ∨ k = 4 ∨ k = 5 by exact (by have h : k < 6 := hk; omega)) with rfl | rfl | rfl | rfl | rfl | rfl
    · exact ⟨by decide +kernel, Or.inr (Or.inr (Or.inl ⟨_, rfl⟩)), by decide +kernel⟩
    · exact ⟨by decide +kernel, Or.inr (Or.inr (Or.inl ⟨_, rfl⟩)), by decide +kernel⟩
    · exact ⟨by decide +kernel, Or.inr (Or.inr (Or.inl ⟨_, rfl⟩)), by decide +kernel⟩
    · exact ⟨by decide +kernel, Or.inr (Or.inr (Or.inl ⟨_, rfl⟩)), by decide +kernel⟩
    · exact ⟨by decide +kernel, Or.inl rfl, by decide +kernel⟩
    · exact ⟨by decide +kernel, Or.inr (Or.inl rfl), by decide +kernel⟩
  · rcases (show k = 0 ∨ k = 1 ∨ k = 2 ∨ k = 3 ∨ k = 4 ∨ k = 5 by exact (by have h : k < 6 := hk; omega)) with rfl | rfl | rfl | rfl | rfl | rfl
    · exact ⟨by decide +kernel, Or.inr (Or.inr (Or.inl ⟨_, rfl⟩)), by decide +kernel⟩
    · exact ⟨by decide +kernel, Or.inl rfl, by decide +kernel⟩
    · exact ⟨by decide +kernel, Or.inl rfl, by decide +kernel⟩
    · exact ⟨by decide +kernel, Or.inl rfl, by decide +kernel⟩
    · exact ⟨by decide +kernel, Or.inl rfl, by decide +kernel⟩
    · exact ⟨by decide +kernel, Or.inl rfl, by decide +kernel⟩
  · rcases (show k = 0 ∨ k = 1 ∨ k = 2 ∨ k = 3 by exact (by have h : k < 4 := hk; omega)) with rfl | rfl | rfl | rfl
    · exact ⟨by decide +kernel, Or.inr (Or.inr (Or.inr ⟨_, rfl⟩)), by decide +kernel⟩
    · exact ⟨by decide +kernel, Or.inl rfl, by decide +kernel⟩
    · exact ⟨by decide +kernel, Or.inl rfl, by decide +kernel⟩
    · exact ⟨by decide +kernel, Or.inl rfl, by decide +kernel⟩
  · rcases (show k = 0 ∨ k = 1 ∨ k = 2 ∨ k = 3 ∨ k = 4 by exact (by have h : k < 5 := hk; omega)) with rfl | rfl | rfl | rfl | rfl
    · exact ⟨by decide +kernel, Or.inr (Or.inr (Or.inr ⟨_, rfl⟩)), by decide +kernel⟩
    · exact ⟨by decide +kernel, Or.inr (Or.inr (Or.inr ⟨_, rfl⟩)), by decide +kernel⟩
    · exact ⟨by decide +kernel, Or.inr (Or.inr (Or.inr ⟨_, rfl⟩)), by decide +kernel⟩
    · exact ⟨by decide +kernel, Or.inr (Or.inr (Or.inr ⟨_, rfl⟩)), by decide +kernel⟩
    · exact ⟨by decide +kernel, Or.inr (Or.inr (Or.inr ⟨_, rfl⟩)), by decide +kernel⟩
  · rcases (show k = 0 ∨ k = 1 ∨ k = 2 ∨ k = 3 ∨ k = 4 ∨ k = 5 ∨ k = 6 ∨ k = 7 ∨ k = 8 ∨ k = 9 ∨ k = 10 ∨ k = 11 ∨ k = 12 ∨ k = 13 ∨ k = 14 ∨ k = 15 ∨ k = 16 ∨ k = 17 ∨ k = 18 ∨ k = 19 by exact (by have h : k < 20 := hk; omega)) with rfl | rfl | rfl | rfl | rfl | rfl | rfl | rfl | rfl | rfl | rfl | rfl | rfl | rfl | rfl | rfl | rfl | rfl | rfl | rfl
    · exact ⟨by decide +kernel, Or.inr (Or.inr (Or.inl ⟨_, rfl⟩)), by decide +kernel⟩
    · exact ⟨by decide +kernel, Or.inr (Or.inr (Or.inl ⟨_, rfl⟩)), by decide +kernel⟩
    · exact ⟨by decide +kernel, Or.inl rfl, by decide +kernel⟩
    · exact ⟨by decide +kernel, Or.inr (Or.inr (Or.inl ⟨_, rfl⟩)), by decide +kernel⟩
    · exact ⟨by decide +kernel, Or.inr (Or.inr (Or.inl ⟨_, rfl⟩)), by decide +kernel⟩
    · exact ⟨by decide +kernel, Or.inl rfl, by decide +kernel⟩
    · exact ⟨by decide +kernel, Or.inl rfl, by decide +kernel⟩
    · exact ⟨by decide +kernel, Or.inl rfl, by decide +kernel⟩
    · exact ⟨by decide +kernel, Or.inl rfl, by decide +kernel⟩
    · exact ⟨by decide +kernel, Or.inl rfl, by decide +kernel⟩
    · exact ⟨by decide +kernel, Or.inl rfl, by decide +kernel⟩
    · exact ⟨by decide +kernel, Or.inr (Or.inr (Or.inl ⟨_, rfl⟩)), by decide +kernel⟩
    · exact ⟨by decide +kernel, Or.inl rfl, by decide +kernel⟩
    · exact ⟨by decide +kernel, Or.inl rfl, by decide +kernel⟩
    · exact ⟨by decide +kernel, Or.inr (Or.inr (Or.inl ⟨_, rfl⟩)), by decide +kernel⟩
    · exact ⟨by decide +kernel, Or.inr (Or.inr (Or.inl ⟨_, rfl⟩)), by decide +kernel⟩
    · exact ⟨by decide +kernel, Or.inr (Or.inl rfl), by decide +kernel⟩
    · exact ⟨by decide +kernel, Or.inr (Or.inr (Or.inl ⟨_, rfl⟩)), by decide +kernel⟩
    · exact ⟨by decide +kernel, Or.inr (Or.inl rfl), by decide +kernel⟩
    · exact ⟨by decide +kernel, Or.inr (Or.inl rfl), by decide +kernel⟩

def x_nzs : List ((Nat × Nat × Nat × Nat) × (Nat × Nat × Nat)) := [((8, 7, 5, 0), (60, 61, 51)), ((5, 7, 0, 0), (68, 69, 52)), ((5, 16, 1, 0), (110, 111, 53)), ((1, 9, 0, 0), (116, 69, 52)), ((5, 23, 3, 0), (127, 128, 54)), ((5, 30, 4, 0), (159, 160, 55)), ((4, 9, 0, 0), (165, 69, 52)), ((5, 37, 2, 0), (184, 185, 56)), ((8, 10, 6, 0), (608, 609, 57))]
def x_nckB (z : (Nat × Nat × Nat × Nat) × (Nat × Nat × Nat)) : Bool := decide (lw_tbl[z.2.1]? = some (.classLink (x_cn z.1.1) z.1.2.1 (x_cn z.1.2.2.1))) && decide (lw_tbl[z.2.2.1]? = some (.instantiable (x_cn z.1.2.2.1) (x_fn z.1.2.2.1))) && decide (lw_tbl[z.2.2.2]? = some (.initialized (x_cn z.1.2.2.1))) && decide (z.1.2.2.1 < 7)
theorem x_nok : x_nzs.all x_nckB = true := by decide +kernel
theorem x_nzl : x_nls = x_nzs.map (fun z => z.1) := by decide +kernel
theorem x_mnaok : lw_tbl[190]? = some (.classLink (x_cn 2) 9 "[[J") ∧ lw_tbl[191]? = some (.arrayOver (.array .long)) ∧ lw_tbl[213]? = some (.arrayClass .long) ∧ lw_tbl[109]? = some (.arrayClass .int) ∧ lw_tbl[158]? = some (.arrayClass .char) ∧ lw_tbl[117]? = some (.arrayOver (.object "WeighingDesign$Design")) := by decide +kernel
def x_czs : List ((Nat × Nat × Value) × Nat) := [((5, 247, .int (-100000)), 240), ((5, 246, .int (100000)), 241), ((5, 48, .int (-2000000001)), 242), ((5, 75, .int (-2000000002)), 274), ((5, 79, .int (-2000000003)), 275), ((5, 235, .int (-2000000004)), 325), ((7, 265, .int (1431655765)), 378), ((7, 266, .int (858993459)), 379), ((7, 267, .int (252645135)), 380), ((5, 170, .long (-2000000001)), 459), ((5, 175, .long (-2000000002)), 468), ((5, 197, .long (-2000000004)), 505), ((2, 83, .long (-1)), 515), ((5, 216, .long (2)), 538), ((6, 98, .int (-100000)), 682), ((6, 99, .int (100000)), 683), ((6, 100, .int (-2000000001)), 684), ((6, 110, .int (-2000000002)), 700), ((6, 111, .int (-2000000003)), 701), ((6, 125, .int (-2000000004)), 738), ((6, 153, .long (-2000000001)), 830), ((6, 155, .long (-2000000002)), 831), ((6, 164, .long (-2000000004)), 860), ((6, 169, .long (-1)), 865), ((6, 174, .long (2)), 878)]
def x_cckB (z : (Nat × Nat × Value) × Nat) : Bool := match z.1.2.2 with | .int v => decide (lw_tbl[z.2]? = some (.constant (x_cn z.1.1) z.1.2.1 v)) | .long v => decide (lw_tbl[z.2]? = some (.constantLong (x_cn z.1.1) z.1.2.1 v)) | _ => false
theorem x_cok : x_czs.all x_cckB = true := by decide +kernel
theorem x_czl : x_css = x_czs.map (fun z => z.1) := by decide +kernel
theorem m_ini_math : lw_tbl[59]? = some (Cond.initialized "java/lang/Math") := by decide +kernel
def x_gw : List Cond := lw_tbl.filter goodWord
