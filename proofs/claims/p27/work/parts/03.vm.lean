/-! A SMALL MACHINE of this claim's own: one method's run over cells that are numbered, with references by number. 'xs' is one step, 'RunP' a run, 'Wp' a run to an end with Q. Part 04 ties it to the machine of the claim. -/
abbrev xC : Type := (Nat × vp_A) ⊕ (Nat × List Value)
/-- how many cells, the cells, the script (length and contents) -/
abbrev xW : Type := Nat × (Nat → xC) × (Nat × (Nat → Int32))
abbrev xK : Type := Nat × List Value × List Value × xW
abbrev xR : Type := Option (xK ⊕ (Option Value ⊕ (Nat × List Value × List Value)))
/-- the number that stands for the script -/
def x_scr : Nat := 1000000
/-- no value -/
abbrev x_no : Value := .retAddr 0
def rd (w : xW) (a : Nat) : xC := w.2.1 a
def wr (w : xW) (a : Nat) (c : xC) : xW := (w.1, fun j => if j = a then c else w.2.1 j, w.2.2)
def x_new (w : xW) (c : xC) : xW := (w.1 + 1, fun j => if j = w.1 then c else w.2.1 j, w.2.2)
def x_wfv (n : Nat) (v : Value) : Bool := match v with
  | .ref k => decide (k < n) || k == x_scr
  | _ => true
def x_wfc (n : Nat) (c : xC) : Bool := match c with
  | .inl (_, len, .inr (.inr (.inr (.inr f)))) => (List.range len).all (fun j => match f j with | none => true | some k => decide (k < n))
  | .inl _ => true
  | .inr (_, fs) => fs.all (x_wfv n)
/-- all references lead to cells -/
def x_wf (w : xW) (ls st : List Value) : Bool := (List.range w.1).all (fun k => x_wfc w.1 (w.2.1 k)) && ls.all (x_wfv w.1) && st.all (x_wfv w.1) && decide (w.1 < 1000)
def x_go (pc : Nat) (ls st : List Value) (w : xW) : xR := some (.inl (pc, ls, st, w))
def x_jmp (pc : Nat) (off : Int) : Option Nat := if 0 ≤ (pc : Int) + off then some ((pc : Int) + off).toNat else none
def x_jgo (pc : Nat) (off : Int) (ls st : List Value) (w : xW) : xR := match x_jmp pc off with
  | some t => x_go t ls st w
  | none => none
def x_br (c : Bool) (pc : Nat) (off : Int) (ls st : List Value) (w : xW) : xR := match x_jmp pc off with
  | some t => some (.inl (bif c then t else pc + 3, ls, st, w))
  | none => none
def x_cd (c : Jvm.ClassFile.Cond) (x y : Int32) : Bool := match c with
  | .eq => decide (x = y)
  | .ne => decide (¬ x = y)
  | .lt => decide (x < y)
  | .ge => decide (y ≤ x)
  | .gt => decide (y < x)
  | .le => decide (x ≤ y)
def x_ii (f : Int32 → Int32 → Int32) (pc : Nat) (ls st : List Value) (w : xW) : xR := match st with
  | .int y :: .int x :: r => x_go (pc + 1) ls (.int (f x y) :: r) w
  | _ => none
def x_ll (f : Int64 → Int64 → Int64) (pc : Nat) (ls st : List Value) (w : xW) : xR := match st with
  | .long y :: .long x :: r => x_go (pc + 1) ls (.long (f x y) :: r) w
  | _ => none
/-- the place ahead holds no long whose second half would be hurt -/
def x_ok (ls : List Value) (k : Nat) : Bool := match k with
  | 0 => true
  | j + 1 => match ls[j]? with
    | some v => decide (v.category = 1)
    | none => true
def x_iload (k pc : Nat) (ls st : List Value) (w : xW) : xR := match ls[k]? with
  | some (.int x) => x_go pc ls (.int x :: st) w
  | _ => none
def x_lload (k pc : Nat) (ls st : List Value) (w : xW) : xR := match ls[k]? with
  | some (.long x) => x_go pc ls (.long x :: st) w
  | _ => none
def x_aload (k pc : Nat) (ls st : List Value) (w : xW) : xR := match ls[k]? with
  | some (.ref x) => x_go pc ls (.ref x :: st) w
  | _ => none
def x_istore (k pc : Nat) (ls st : List Value) (w : xW) : xR := match st with
  | .int x :: r => if k < ls.length ∧ x_ok ls k = true then x_go pc (ls.set k (.int x)) r w else none
  | _ => none
def x_lstore (k pc : Nat) (ls st : List Value) (w : xW) : xR := match st with
  | .long x :: r => if k + 1 < ls.length ∧ x_ok ls k = true then x_go pc ((ls.set k (.long x)).set (k + 1) x_no) r w else none
  | _ => none
def x_astore (k pc : Nat) (ls st : List Value) (w : xW) : xR := match st with
  | .ref x :: r => if k < ls.length ∧ x_ok ls k = true then x_go pc (ls.set k (.ref x)) r w else none
  | _ => none
def x_iinc (k : Nat) (n : Int) (pc : Nat) (ls st : List Value) (w : xW) : xR := match ls[k]? with
  | some (.int x) => if x_ok ls k = true then x_go pc (ls.set k (.int (x + Int32.ofInt n))) st w else none
  | _ => none
def x_getf (ci k pc : Nat) (ls st : List Value) (w : xW) : xR := match st with
  | .ref a :: r => match rd w a with
    | .inr (c, fs) => if c = ci then (match fs[k]? with
      | some v => x_go (pc + 3) ls (v :: r) w
      | none => none) else none
    | _ => none
  | _ => none
def x_kok (kd : Nat) (v : Value) : Bool := match kd, v with
  | 0, .int _ => true
  | 1, .long _ => true
  | 2, .ref _ => true
  | _, _ => false
def x_putf (y ci k pc : Nat) (ls st : List Value) (w : xW) : xR := match st with
  | v :: .ref a :: r => match rd w a with
    | .inr (c, fs) => if c = ci ∧ k < fs.length then (match (x_fk ci)[k]? with
      | some (kd, fin) => if x_kok kd v = true ∧ (fin = true → m_in y = true ∧ m_cl y = ci) then x_go (pc + 3) ls r (wr w a (.inr (ci, fs.set k v))) else none
      | none => none) else none
    | _ => none
  | _ => none
abbrev x_in (i : Int32) (n : Nat) : Prop := ¬ i < 0 ∧ i.toNatClampNeg < n
def x_iald (y pc : Nat) (ls st : List Value) (w : xW) : xR := match st with
  | .int i :: .ref a :: r => if m_sc y = true then (if a = x_scr ∧ x_in i w.2.2.1 then x_go (pc + 1) ls (.int (w.2.2.2 i.toNatClampNeg) :: r) w else none) else (match rd w a with
    | .inl (t, n, .inl f) => if t = 0 ∧ x_in i n then x_go (pc + 1) ls (.int (f i.toNatClampNeg) :: r) w else none
    | _ => none)
  | _ => none
def x_cald (pc : Nat) (ls st : List Value) (w : xW) : xR := match st with
  | .int i :: .ref a :: r => match rd w a with
    | .inl (t, n, .inl f) => if t = 2 ∧ x_in i n then x_go (pc + 1) ls (.int (f i.toNatClampNeg) :: r) w else none
    | _ => none
  | _ => none
def x_lald (pc : Nat) (ls st : List Value) (w : xW) : xR := match st with
  | .int i :: .ref a :: r => match rd w a with
    | .inl (t, n, .inr (.inl f)) => if t = 1 ∧ x_in i n then x_go (pc + 1) ls (.long (f i.toNatClampNeg) :: r) w else none
    | _ => none
  | _ => none
def x_aald (pc : Nat) (ls st : List Value) (w : xW) : xR := match st with
  | .int i :: .ref a :: r => match rd w a with
    | .inl (t, n, .inr (.inr (.inr (.inr f)))) => if (t = 3 ∨ t = 4) ∧ x_in i n then (match f i.toNatClampNeg with
      | some q => x_go (pc + 1) ls (.ref q :: r) w
      | none => none) else none
    | _ => none
  | _ => none
def x_iast (pc : Nat) (ls st : List Value) (w : xW) : xR := match st with
  | .int x :: .int i :: .ref a :: r => match rd w a with
    | .inl (t, n, .inl f) => if t = 0 ∧ x_in i n then x_go (pc + 1) ls r (wr w a (.inl (0, n, .inl (upd f i.toNatClampNeg x)))) else none
    | _ => none
  | _ => none
def x_cast (pc : Nat) (ls st : List Value) (w : xW) : xR := match st with
  | .int x :: .int i :: .ref a :: r => match rd w a with
    | .inl (t, n, .inl f) => if t = 2 ∧ x_in i n then x_go (pc + 1) ls r (wr w a (.inl (2, n, .inl (upd f i.toNatClampNeg (vp_nar .char x))))) else none
    | _ => none
  | _ => none
def x_last (pc : Nat) (ls st : List Value) (w : xW) : xR := match st with
  | .long x :: .int i :: .ref a :: r => match rd w a with
    | .inl (t, n, .inr (.inl f)) => if t = 1 ∧ x_in i n then x_go (pc + 1) ls r (wr w a (.inl (1, n, .inr (.inl (vp_updL f i.toNatClampNeg x))))) else none
    | _ => none
  | _ => none
def x_aast (pc : Nat) (ls st : List Value) (w : xW) : xR := match st with
  | .ref x :: .int i :: .ref a :: r => match rd w a with
    | .inl (t, n, .inr (.inr (.inr (.inr f)))) => if t = 3 ∧ x_in i n then (match rd w x with
      | .inr (0, _) => x_go (pc + 1) ls r (wr w a (.inl (3, n, .inr (.inr (.inr (.inr (va_up f i.toNatClampNeg (some x))))))))
      | _ => none) else none
    | _ => none
  | _ => none
/-- the script's length, in the law alone -/
def x_alen (y pc : Nat) (ls st : List Value) (w : xW) : xR := match st with
  | .ref a :: r => if m_sc y = true ∧ a = x_scr then x_go (pc + 1) ls (.int (Int32.ofNat w.2.2.1) :: r) w else none
  | _ => none
def x_nobj (y b idx pc : Nat) (ls st : List Value) (w : xW) : xR := match x_nl (m_cl y) idx with
  | some (ci, _) => if w.1 - b + 1 ≤ m_mc y ∧ x_wf w ls st = true then x_go (pc + 3) ls (.ref w.1 :: st) (x_new w (.inr (ci, x_df ci))) else none
  | none => none
def x_narr (y b : Nat) (t : Jvm.ClassFile.ArrayType) (pc : Nat) (ls st : List Value) (w : xW) : xR := match st with
  | .int n :: r => if w.1 - b + 1 ≤ m_mc y ∧ x_wf w ls r = true ∧ ¬ n < 0 ∧ n.toNatClampNeg ≤ 600 then (match t with
    | .int => x_go (pc + 2) ls (.ref w.1 :: r) (x_new w (.inl (0, n.toNatClampNeg, .inl (fun _ => 0))))
    | .char => x_go (pc + 2) ls (.ref w.1 :: r) (x_new w (.inl (2, n.toNatClampNeg, .inl (fun _ => 0))))
    | .long => x_go (pc + 2) ls (.ref w.1 :: r) (x_new w (.inl (1, n.toNatClampNeg, .inr (.inl (fun _ => 0)))))
    | _ => none) else none
  | _ => none
def x_nref (y b idx pc : Nat) (ls st : List Value) (w : xW) : xR := match st with
  | .int n :: r => if w.1 - b + 1 ≤ m_mc y ∧ x_wf w ls r = true ∧ ¬ n < 0 ∧ n.toNatClampNeg ≤ 600 ∧ x_nl (m_cl y) idx = some (0, 0) then x_go (pc + 3) ls (.ref w.1 :: r) (x_new w (.inl (3, n.toNatClampNeg, .inr (.inr (.inr (.inr (fun _ => none))))))) else none
  | _ => none
/-- k new rows of m longs -/
def x_rows (w : xW) (m : Nat) : Nat → xW
  | 0 => w
  | k + 1 => x_new (x_rows w m k) (.inl (1, m, .inr (.inl (fun _ => 0))))
def x_ngrid (y b idx : Nat) (pc : Nat) (ls st : List Value) (w : xW) : xR := match st with
  | .int k :: .int n :: r => if w.1 - b + (1 + n.toNatClampNeg) ≤ m_mc y ∧ x_wf w ls r = true ∧ ¬ n < 0 ∧ n.toNatClampNeg ≤ 20 ∧ ¬ k < 0 ∧ k.toNatClampNeg ≤ 20 ∧ x_mna (m_cl y) idx = true then x_go (pc + 4) ls (.ref w.1 :: r) (x_rows (x_new w (.inl (4, n.toNatClampNeg, .inr (.inr (.inr (.inr (fun i => if i < n.toNatClampNeg then some (w.1 + 1 + i) else none))))))) k.toNatClampNeg n.toNatClampNeg) else none
  | _ => none
def xlen_args (as : List Value) : Nat := (as.map Value.category).sum
def x_call (y b t : Nat) (as r ls : List Value) (w : xW) : xR := if m_dp t < m_dp y ∧ (t < m_law ∧ (m_sc t = true → m_sc y = true)) ∧ as.length ≤ 9 ∧ (r.map Value.category).sum ≤ 8 ∧ (xlen_args as ≤ m_ml t) ∧ (m_mc t = 0 ∨ (w.1 - b + m_mc t ≤ m_mc y ∧ x_wf w ls r = true ∧ as.all (x_wfv w.1) = true)) then some (.inr (.inr (t, as, r))) else none
def x_invV (y b idx : Nat) (pc : Nat) (ls st : List Value) (w : xW) : xR := match x_ml (m_cl y) idx with
  | some (0, t) => match st.drop (m_np t) with
    | .ref a :: r => (match rd w a with
      | .inr (c, _) => if c = m_cl t ∧ m_cl t < 6 ∧ (st.take (m_np t)).length = m_np t then x_call y b t (.ref a :: (st.take (m_np t)).reverse) r ls w else none
      | _ => none)
    | _ => none
  | _ => none
def x_invS (y b idx : Nat) (pc : Nat) (ls st : List Value) (w : xW) : xR := match x_ml (m_cl y) idx with
  | some (1, t) => if (st.take (m_np t)).length = m_np t then x_call y b t (st.take (m_np t)).reverse (st.drop (m_np t)) ls w else none
  | some (6, t) => if (st.take (m_np t)).length = m_np t then x_call y b t (st.take (m_np t)).reverse (st.drop (m_np t)) ls w else none
  | some (4, _) => match st with
    | .long x :: r => if (r.map Value.category).sum ≤ 8 ∧ 1 ≤ m_dp y then x_go (pc + 3) ls (.long (if 0 < x then x else -x) :: r) w else none
    | _ => none
  | some (5, _) => match st with
    | .long z :: .long x :: r => if (r.map Value.category).sum ≤ 8 ∧ 1 ≤ m_dp y then x_go (pc + 3) ls (.long (if z < x then x else z) :: r) w else none
    | _ => none
  | _ => none
def x_invI (y b idx : Nat) (pc : Nat) (ls st : List Value) (w : xW) : xR := match x_ml (m_cl y) idx with
  | some (2, t) => match st.drop (m_np t) with
    | .ref a :: r => if (st.take (m_np t)).length = m_np t then x_call y b t (.ref a :: (st.take (m_np t)).reverse) r ls w else none
    | _ => none
  | some (3, _) => match st with
    | .ref a :: r => if (r.map Value.category).sum ≤ 8 ∧ 1 ≤ m_dp y then x_go (pc + 3) ls r w else none
    | _ => none
  | _ => none
def x_ret (y b : Nat) (r : Option Value) (w : xW) : xR := if m_mc y = 0 ∨ y = m_law ∨ w.1 = b + m_mc y then some (.inr (.inl r)) else none
def x_iret (y b : Nat) (st : List Value) (w : xW) : xR := match st with
  | [.int v] => match m_rt y with
    | some .int => x_ret y b (some (.int v)) w
    | some .boolean => if v = 0 ∨ v = 1 then x_ret y b (some (.int v)) w else none
    | some .char => if vp_nar .char v = v then x_ret y b (some (.int v)) w else none
    | _ => none
  | _ => none
def x_lret (y b : Nat) (st : List Value) (w : xW) : xR := match st with
  | [.long v] => match m_rt y with
    | some .long => x_ret y b (some (.long v)) w
    | _ => none
  | _ => none
def x_vret (y b : Nat) (st : List Value) (w : xW) : xR := match st with
  | [] => match m_rt y with
    | none => x_ret y b none w
    | _ => none
  | _ => none
/-- where a tableswitch goes -/
def x_sw (pc : Nat) (d lo hi : Int) (offs : Array Int) (x : Int32) : Option Nat := if x.toInt < lo ∨ hi < x.toInt then x_jmp pc d else match offs[(x.toInt - lo).toNat]? with
  | some o => x_jmp pc o
  | none => none
def xlen (i : Instr) : Nat := match i with
  | .bipush _ | .iload _ | .istore _ | .lload _ | .lstore _ | .ldc _ | .newarray _ => 2
  | .sipush _ | .iinc _ _ | .ifCond _ _ | .if_icmp _ _ | .goto _ | .ldc_w _ | .ldc2_w _ | .getfield _ | .putfield _ | .invokevirtual _ | .invokestatic _ | .invokespecial _ | .new _ | .anewarray _ => 3
  | .multianewarray _ _ => 4
  | _ => 1
/-- one step -/
def xs (y b pc : Nat) (i : Instr) (ls st : List Value) (w : xW) : xR := match i with
  | .iconst n => x_go (pc + 1) ls (.int (Int32.ofInt n) :: st) w
  | .bipush n => x_go (pc + 2) ls (.int (Int8.ofInt n).toInt32 :: st) w
  | .sipush n => x_go (pc + 3) ls (.int (Int16.ofInt n).toInt32 :: st) w
  | .lconst n => x_go (pc + 1) ls (.long (Int64.ofNat n.val) :: st) w
  | .iload_n k => x_iload k.val (pc + 1) ls st w
  | .iload k => x_iload k (pc + 2) ls st w
  | .lload_n k => x_lload k.val (pc + 1) ls st w
  | .lload k => x_lload k (pc + 2) ls st w
  | .aload_n k => x_aload k.val (pc + 1) ls st w
  | .istore_n k => x_istore k.val (pc + 1) ls st w
  | .istore k => x_istore k (pc + 2) ls st w
  | .lstore_n k => x_lstore k.val (pc + 1) ls st w
  | .lstore k => x_lstore k (pc + 2) ls st w
  | .astore_n k => x_astore k.val (pc + 1) ls st w
  | .iinc k n => x_iinc k n (pc + 3) ls st w
  | .iadd => x_ii (fun x z => x + z) pc ls st w
  | .isub => x_ii (fun x z => x - z) pc ls st w
  | .imul => x_ii (fun x z => x * z) pc ls st w
  | .iand => x_ii (fun x z => x &&& z) pc ls st w
  | .ior => x_ii (fun x z => x ||| z) pc ls st w
  | .ixor => x_ii (fun x z => x ^^^ z) pc ls st w
  | .ishl => x_ii (fun x z => x <<< (z &&& 31)) pc ls st w
  | .ishr => x_ii (fun x z => x >>> (z &&& 31)) pc ls st w
  | .iushr => x_ii (fun x z => (x.toUInt32 >>> (z.toUInt32 &&& Int32.toUInt32 31)).toInt32) pc ls st w
  | .idiv => match st with
    | .int z :: .int x :: r => if z = 0 then none else x_go (pc + 1) ls (.int (x / z) :: r) w
    | _ => none
  | .irem => match st with
    | .int z :: .int x :: r => if z = 0 then none else x_go (pc + 1) ls (.int (x - x / z * z) :: r) w
    | _ => none
  | .ineg => match st with
    | .int x :: r => x_go (pc + 1) ls (.int (-x) :: r) w
    | _ => none
  | .ladd => x_ll (fun x z => x + z) pc ls st w
  | .lsub => x_ll (fun x z => x - z) pc ls st w
  | .lmul => x_ll (fun x z => x * z) pc ls st w
  | .ldiv => match st with
    | .long z :: .long x :: r => if z = 0 then none else x_go (pc + 1) ls (.long (x / z) :: r) w
    | _ => none
  | .lrem => match st with
    | .long z :: .long x :: r => if z = 0 then none else x_go (pc + 1) ls (.long (x - x / z * z) :: r) w
    | _ => none
  | .lneg => match st with
    | .long x :: r => x_go (pc + 1) ls (.long (-x) :: r) w
    | _ => none
  | .lcmp => match st with
    | .long z :: .long x :: r => x_go (pc + 1) ls (.int (lg_cmp x z) :: r) w
    | _ => none
  | .i2l => match st with
    | .int x :: r => x_go (pc + 1) ls (.long x.toInt64 :: r) w
    | _ => none
  | .i2c => match st with
    | .int x :: r => x_go (pc + 1) ls (.int (x.toUInt32 % 65536).toInt32 :: r) w
    | _ => none
  | .dup => match st with
    | v :: r => if v.category = 1 then x_go (pc + 1) ls (v :: v :: r) w else none
    | _ => none
  | .dup2 => match st with
    | u :: v :: r => if u.category = 1 ∧ v.category = 1 then x_go (pc + 1) ls (u :: v :: u :: v :: r) w else none
    | _ => none
  | .pop => match st with
    | v :: r => if v.category = 1 then x_go (pc + 1) ls r w else none
    | _ => none
  | .ifCond c o => match st with
    | .int x :: r => x_br (x_cd c x 0) pc o ls r w
    | _ => none
  | .if_icmp c o => match st with
    | .int z :: .int x :: r => x_br (x_cd c x z) pc o ls r w
    | _ => none
  | .goto o => x_jgo pc o ls st w
  | .tableswitch d lo hi offs => match st with
    | .int x :: r => (match x_sw pc d lo hi offs x with
      | some t => x_go t ls r w
      | none => none)
    | _ => none
  | .ldc k => match x_cs (m_cl y) k with
    | some (.int v) => x_go (pc + 2) ls (.int v :: st) w
    | _ => none
  | .ldc_w k => match x_cs (m_cl y) k with
    | some (.int v) => x_go (pc + 3) ls (.int v :: st) w
    | _ => none
  | .ldc2_w k => match x_cs (m_cl y) k with
    | some (.long v) => x_go (pc + 3) ls (.long v :: st) w
    | _ => none
  | .getfield k => match x_fl (m_cl y) k with
    | some (ci, f) => x_getf ci f pc ls st w
    | none => none
  | .putfield k => match x_fl (m_cl y) k with
    | some (ci, f) => x_putf y ci f pc ls st w
    | none => none
  | .iaload => x_iald y pc ls st w
  | .caload => x_cald pc ls st w
  | .laload => x_lald pc ls st w
  | .aaload => x_aald pc ls st w
  | .iastore => x_iast pc ls st w
  | .castore => x_cast pc ls st w
  | .lastore => x_last pc ls st w
  | .aastore => x_aast pc ls st w
  | .arraylength => x_alen y pc ls st w
  | .new k => x_nobj y b k pc ls st w
  | .newarray t => x_narr y b t pc ls st w
  | .anewarray k => x_nref y b k pc ls st w
  | .multianewarray k n => if n = 2 then x_ngrid y b k pc ls st w else none
  | .invokevirtual k => x_invV y b k pc ls st w
  | .invokestatic k => x_invS y b k pc ls st w
  | .invokespecial k => x_invI y b k pc ls st w
  | .ireturn => x_iret y b st w
  | .lreturn => x_lret y b st w
  | .return_ => x_vret y b st w
  | _ => none
def rl (r : Option Value) (st : List Value) : List Value := match r with
  | some v => v :: st
  | none => st
/-- a method's first locals -/
def x_args : List Value → List Value
  | [] => []
  | v :: vs => match v with
    | .long x => .long x :: x_no :: x_args vs
    | .double _ => x_no :: x_no :: x_args vs
    | v => v :: x_args vs
def x_ent (as : List Value) (n : Nat) : List Value := x_args as ++ List.replicate (n - (x_args as).length) x_no
/-- a switch: its length is its own -/
def x_isw (i : Instr) : Prop := match i with
  | .tableswitch _ _ _ _ => True
  | _ => False
def RunP : Nat → Nat → Nat → Nat → List Value → List Value → xW → Option Value → xW → Prop
  | 0, _, _, _, _, _, _, _, _ => False
  | n + 1, y, b, pc, ls, st, w, o, w2 => ∃ i len, decode (m_bc y) pc = .ok (i, len) ∧ (len = xlen i ∨ x_isw i) ∧ match xs y b pc i ls st w with
    | none => False
    | some (.inl (pc1, ls1, st1, w1)) => RunP n y b pc1 ls1 st1 w1 o w2
    | some (.inr (.inl r)) => o = r ∧ w2 = w
    | some (.inr (.inr (t, as, r))) => ∃ o1 w1, RunP n t w.1 0 (x_ent as (m_ml t)) [] w o1 w1 ∧ RunP n y b (pc + 3) ls (rl o1 r) w1 o w2
theorem RunP.up : ∀ (n : Nat) {y b pc : Nat} {ls st : List Value} {w w2 : xW} {o : Option Value}, RunP n y b pc ls st w o w2 → RunP (n + 1) y b pc ls st w o w2
  | 0, _, _, _, _, _, _, _, _, h => h.elim
  | n + 1, y, b, pc, ls, st, w, w2, o, h => by
    obtain ⟨i, len, hd, hl, hs⟩ := h
    refine ⟨i, len, hd, hl, ?_⟩
    cases hx : xs y b pc i ls st w with
    | none => rw [hx] at hs; exact hs.elim
    | some z =>
      rw [hx] at hs
      rcases z with ⟨pc1, ls1, st1, w1⟩ | r | ⟨t, as, r⟩
      · exact RunP.up n hs
      · exact hs
      · obtain ⟨o1, w1, h1, h2⟩ := hs
        exact ⟨o1, w1, RunP.up n h1, RunP.up n h2⟩
theorem RunP.le {n k y b pc : Nat} {ls st : List Value} {w w2 : xW} {o : Option Value} (h : RunP n y b pc ls st w o w2) (hk : n ≤ k) : RunP k y b pc ls st w o w2 := by
  induction k with
  | zero =>
    have : n = 0 := by omega
    subst this
    exact h
  | succ k ih =>
    by_cases e : n = k + 1
    · subst e; exact h
    · exact RunP.up k (ih (by omega))
/-- the run from here comes to an end with Q -/
def Wp (y b pc : Nat) (ls st : List Value) (w : xW) (Q : Option Value → xW → Prop) : Prop := ∃ n o w2, RunP n y b pc ls st w o w2 ∧ Q o w2
theorem Wp_go {y b pc pc1 : Nat} {i : Instr} {ls st ls1 st1 : List Value} {w w1 : xW} {Q : Option Value → xW → Prop} (hd : decode (m_bc y) pc = .ok (i, xlen i)) (hs : xs y b pc i ls st w = some (.inl (pc1, ls1, st1, w1))) : Wp y b pc ls st w Q ↔ Wp y b pc1 ls1 st1 w1 Q := by
  constructor
  · rintro ⟨n, o, w2, h, q⟩
    cases n with
    | zero => exact h.elim
    | succ n =>
      obtain ⟨i', len, hd', -, h⟩ := h
      rw [hd] at hd'
      cases hd'
      rw [hs] at h
      exact ⟨n, o, w2, h, q⟩
  · rintro ⟨n, o, w2, h, q⟩
    exact ⟨n + 1, o, w2, ⟨i, _, hd, Or.inl rfl, by rw [hs]; exact h⟩, q⟩
theorem Wp_none {y b pc : Nat} {i : Instr} {ls st : List Value} {w : xW} {Q : Option Value → xW → Prop} (hd : decode (m_bc y) pc = .ok (i, xlen i)) (hs : xs y b pc i ls st w = none) : Wp y b pc ls st w Q ↔ False := by
  constructor
  · rintro ⟨n, o, w2, h, q⟩
    cases n with
    | zero => exact h.elim
    | succ n =>
      obtain ⟨i', len, hd', -, h⟩ := h
      rw [hd] at hd'
      cases hd'
      rw [hs] at h
      exact h
  · exact fun h => h.elim
theorem Wp_ret {y b pc : Nat} {i : Instr} {ls st : List Value} {w : xW} {r : Option Value} {Q : Option Value → xW → Prop} (hd : decode (m_bc y) pc = .ok (i, xlen i)) (hs : xs y b pc i ls st w = some (.inr (.inl r))) : Wp y b pc ls st w Q ↔ Q r w := by
  constructor
  · rintro ⟨n, o, w2, h, q⟩
    cases n with
    | zero => exact h.elim
    | succ n =>
      obtain ⟨i', len, hd', -, h⟩ := h
      rw [hd] at hd'
      cases hd'
      rw [hs] at h
      obtain ⟨rfl, rfl⟩ := h
      exact q
  · exact fun q => ⟨1, r, w, ⟨i, _, hd, Or.inl rfl, by rw [hs]; exact ⟨rfl, rfl⟩⟩, q⟩
theorem Wp_call {y b pc t : Nat} {i : Instr} {ls st as r : List Value} {w : xW} {Q : Option Value → xW → Prop} (hd : decode (m_bc y) pc = .ok (i, xlen i)) (hs : xs y b pc i ls st w = some (.inr (.inr (t, as, r)))) : Wp y b pc ls st w Q ↔ Wp t w.1 0 (x_ent as (m_ml t)) [] w (fun o1 w1 => Wp y b (pc + 3) ls (rl o1 r) w1 Q) := by
  constructor
  · rintro ⟨n, o, w2, h, q⟩
    cases n with
    | zero => exact h.elim
    | succ n =>
      obtain ⟨i', len, hd', -, h⟩ := h
      rw [hd] at hd'
      cases hd'
      rw [hs] at h
      obtain ⟨o1, w1, h1, h2⟩ := h
      exact ⟨n, o1, w1, h1, n, o, w2, h2, q⟩
  · rintro ⟨n, o1, w1, h1, k, o, w2, h2, q⟩
    refine ⟨max n k + 1, o, w2, ⟨i, _, hd, Or.inl rfl, ?_⟩, q⟩
    rw [hs]
    exact ⟨o1, w1, h1.le (Nat.le_max_left n k), h2.le (Nat.le_max_right n k)⟩
theorem Wp_sw {y b pc : Nat} {d lo hi : Int} {offs : Array Int} {len : Nat} {ls r : List Value} {x : Int32} {w : xW} {Q : Option Value → xW → Prop} (hd : decode (m_bc y) pc = .ok (.tableswitch d lo hi offs, len)) {t : Nat} (ht : x_sw pc d lo hi offs x = some t) : Wp y b pc ls (.int x :: r) w Q ↔ Wp y b t ls r w Q := by
  have hs : xs y b pc (.tableswitch d lo hi offs) ls (.int x :: r) w = some (.inl (t, ls, r, w)) := by
    show (match x_sw pc d lo hi offs x with
      | some t => x_go t ls r w
      | none => none) = _
    rw [ht]
    rfl
  constructor
  · rintro ⟨n, o, w2, h, q⟩
    cases n with
    | zero => exact h.elim
    | succ n =>
      obtain ⟨i', len, hd', -, h⟩ := h
      rw [hd] at hd'
      cases hd'
      rw [hs] at h
      exact ⟨n, o, w2, h, q⟩
  · rintro ⟨n, o, w2, h, q⟩
    exact ⟨n + 1, o, w2, ⟨_, _, hd, Or.inr trivial, by rw [hs]; exact h⟩, q⟩
theorem Wp.mono {y b pc : Nat} {ls st : List Value} {w : xW} {Q Q' : Option Value → xW → Prop} (h : Wp y b pc ls st w Q) (hq : ∀ o w2, Q o w2 → Q' o w2) : Wp y b pc ls st w Q' := by
  obtain ⟨n, o, w2, h1, h2⟩ := h
  exact ⟨n, o, w2, h1, hq o w2 h2⟩
