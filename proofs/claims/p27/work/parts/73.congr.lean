/-! What designs answer that are the same as far as rows and readings go -/
section AG
variable {n : Nat} {lf rf tf mf lf' rf' tf' mf' : Nat → Int32}
theorem agD.tk (A : agD n lf rf tf mf lf' rf' tf' mf') {i : Nat} (hi : i < n) : tkF tf i = tkF tf' i := by
  unfold tkF
  rw [(A i hi).2.2.1]
theorem agD.fnd (A : agD n lf rf tf mf lf' rf' tf' mf') (x y : Int32) : fndN (fun j => decide (lf j = x ∧ rf j = y)) n 0 = fndN (fun j => decide (lf' j = x ∧ rf' j = y)) n 0 := fndN_congr n 0 (fun j _ hj => by
  obtain ⟨e1, e2, -, -⟩ := A j (by omega)
  rw [e1, e2])
theorem agD.sw (A : agD n lf rf tf mf lf' rf' tf' mf') (hn : n ≤ 12) {i : Nat} (hi : i < n) : swF n lf rf tf i = swF n lf' rf' tf' i := by
  obtain ⟨e1, e2, e3, -⟩ := A i hi
  unfold swF
  rw [A.fnd, e1, e2, e3]
  rcases fndN_or (P := fun j => decide (lf' j = rf' i ∧ rf' j = lf' i)) n 0 with q | ⟨j, -, hj, -, q⟩
  · simp only [q, if_true]
  · have ej := (A j (by omega)).2.2.1
    have hcl : (nI j).toNatClampNeg = j := cl_nI (by omega)
    simp only [q, hcl, ej]
theorem agD.sm (A : agD n lf rf tf mf lf' rf' tf' mf') {i : Nat} (hi : i < n) : smF mf (tkF tf i) i = smF mf' (tkF tf' i) i := by
  rw [A.tk hi]
  unfold smF
  exact foldN_congr _ 0 _ (fun a j _ hj => by rw [(A i hi).2.2.2 j (by omega)])
theorem agD.sg (A : agD n lf rf tf mf lf' rf' tf' mf') {i : Nat} (hi : i < n) (a : Int32) : sgF lf rf i a = sgF lf' rf' i a := by
  obtain ⟨e1, e2, -, -⟩ := A i hi
  unfold sgF
  rw [e1, e2]
theorem agD.fc (A : agD n lf rf tf mf lf' rf' tf' mf') {i : Nat} (hi : i < n) (a : Int32) : fcF lf rf i a = fcF lf' rf' i a := by
  unfold fcF
  rw [A.sg hi]
theorem agD.all (A : agD n lf rf tf mf lf' rf' tf' mf') : foldN (fun a j => a + tf j) n 0 0 = foldN (fun a j => a + tf' j) n 0 (0 : Int32) := foldN_congr n 0 _ (fun a j _ hj => by rw [(A j (by omega)).2.2.1])
theorem agD.pr (A : agD n lf rf tf mf lf' rf' tf' mf') (hn : n ≤ 12) : foldN (fun a j => if swF n lf rf tf j ≤ nI j then a else a + 1) n 0 0 = foldN (fun a j => if swF n lf' rf' tf' j ≤ nI j then a else a + 1) n 0 (0 : Int32) := foldN_congr n 0 _ (fun a j _ hj => by rw [A.sw hn (show j < n by omega)])
theorem agD.mn (A : agD n lf rf tf mf lf' rf' tf' mf') {i j : Nat} (hi : i < n) (hj : j < n) : mnF tf mf i j = mnF tf' mf' i j := by
  unfold mnF
  rw [A.sm hi, A.sm hj, (A i hi).2.2.1, (A j hj).2.2.1]
theorem agD.md (A : agD n lf rf tf mf lf' rf' tf' mf') {i j : Nat} (hi : i < n) (hj : j < n) : mdF tf i j = mdF tf' i j := by
  unfold mdF
  rw [(A i hi).2.2.1, (A j hj).2.2.1]
theorem agD.ps (A : agD n lf rf tf mf lf' rf' tf' mf') (hn : n ≤ 12) (l : Int32) {i : Nat} (hi : i < n) : psF l n lf rf tf mf i = psF l n lf' rf' tf' mf' i := by
  unfold psF
  rw [A.sw hn hi]
  rcases swF_or n lf' rf' tf' i with q | ⟨j, hj, q, -, -⟩
  · simp only [q, not_true, decide_false, Bool.false_and]
  · have hcl : (nI j).toNatClampNeg = j := cl_nI (by omega)
    rw [q, hcl, A.mn hi hj, A.md hi hj]
theorem agD.an (A : agD n lf rf tf mf lf' rf' tf' mf') (hn : n ≤ 12) (l : Int32) : anyN (psF l n lf rf tf mf) n 0 = anyN (psF l n lf' rf' tf' mf') n 0 := anyN_congr n 0 (fun j _ hj => A.ps hn l (by omega))
theorem agD.mr (A : agD n lf rf tf mf lf' rf' tf' mf') (hn : n ≤ 12) : mrF n lf rf tf mf = mrF n lf' rf' tf' mf' := by
  unfold mrF
  refine congrArg (fun z : Int32 × Int64 × Int64 => z.1) (foldN_congr n 0 _ (fun a i _ hi => ?_))
  have hi' : i < n := by omega
  unfold msG
  rw [A.sw hn hi']
  rcases swF_or n lf' rf' tf' i with q | ⟨j, hj, q, -, -⟩
  · rw [if_pos q, if_pos q]
  · have hcl : (nI j).toNatClampNeg = j := cl_nI (by omega)
    rw [q, hcl, A.mn hi' hj, A.md hi' hj]
theorem agD.e_wN (A : agD n lf rf tf mf lf' rf' tf' mf') {r : Nat} (hr : r < n) (t : Int32) (i j : Nat) : wN lf rf r t i j = wN lf' rf' r t i j := by
  unfold wN
  rw [A.fc hr, A.fc hr]
theorem agD.e_wS (A : agD n lf rf tf mf lf' rf' tf' mf') {r : Nat} (hr : r < n) (s t m : Int32) (i : Nat) : wS s lf rf r t m i = wS s lf' rf' r t m i := by
  unfold wS
  rw [A.fc hr, A.sg hr]
theorem agD.e_gN (A : agD n lf rf tf mf lf' rf' tf' mf') (i j : Nat) : gN n lf rf tf i j = gN n lf' rf' tf' i j := by
  unfold gN
  exact foldN_congr n 0 _ (fun a r _ hr => by rw [A.e_wN (by omega), (A r (by omega)).2.2.1])
theorem agD.e_gS (A : agD n lf rf tf mf lf' rf' tf' mf') (s : Int32) (i : Nat) : gS n s lf rf tf mf i = gS n s lf' rf' tf' mf' i := by
  unfold gS
  exact foldN_congr n 0 _ (fun a r _ hr => by rw [A.e_wS (by omega), (A r (by omega)).2.2.1, A.sm (by omega)])
theorem agD.e_gNx (A : agD n lf rf tf mf lf' rf' tf' mf') {r : Nat} (hr : r < n) (i j : Nat) : gNx n lf rf tf r i j = gNx n lf' rf' tf' r i j := by
  unfold gNx
  rw [A.e_gN, A.e_wN hr, (A r hr).2.2.1]
theorem agD.e_gN1 (A : agD n lf rf tf mf lf' rf' tf' mf') {r : Nat} (hr : r < n) (i j : Nat) : gN1 n lf rf tf r i j = gN1 n lf' rf' tf' r i j := by
  unfold gN1
  rw [A.e_gN, A.e_wN hr]
theorem agD.e_gS1 (A : agD n lf rf tf mf lf' rf' tf' mf') {r k : Nat} (hr : r < n) (hk : k < tkF tf' r) (s : Int32) (i : Nat) : gS1 n s lf rf tf mf r k i = gS1 n s lf' rf' tf' mf' r k i := by
  unfold gS1
  rw [A.e_gS, A.e_wS hr, (A r hr).2.2.2 k hk]
theorem agD.rs (A : agD n lf rf tf mf lf' rf' tf' mf') {s : Int32} {U : Nat} {det : Int64} {V V' : Nat → Int64} (h : ∀ a, a < U → V a = V' a) {i j : Nat} (hi : i < n) (hj : j < tkF tf' i) : rsF s lf rf mf U det V i j = rsF s lf' rf' mf' U det V' i j := by
  rw [rsF_k h]
  unfold rsF
  rw [A.sg hi, (A i hi).2.2.2 j hj]
  exact foldN_congr U 0 _ (fun a z _ hz => by rw [A.fc hi])
theorem agD.bl (A : agD n lf rf tf mf lf' rf' tf' mf') {s : Int32} {U : Nat} {det : Int64} {V V' : Nat → Int64} (h : ∀ a, a < U → V a = V' a) (m : Int32) : foldN (blF s lf rf tf mf U det V m) n 0 0 = foldN (blF s lf' rf' tf' mf' U det V' m) n 0 0 := foldN_congr n 0 _ (fun a r _ hr => by
  have hr' : r < n := by omega
  unfold blF
  rw [A.tk hr']
  exact foldN_congr _ 0 _ (fun a k _ hk => by rw [A.sg hr', A.rs h hr' (by omega)]))
theorem agD.wo (A : agD n lf rf tf mf lf' rf' tf' mf') {s : Int32} {U : Nat} {det : Int64} {V V' : Nat → Int64} (h : ∀ a, a < U → V a = V' a) : foldN (woF s lf rf tf mf U det V) n 0 (0, -1) = foldN (woF s lf' rf' tf' mf' U det V') n 0 (0, -1) := foldN_congr n 0 _ (fun a r _ hr => by
  have hr' : r < n := by omega
  unfold woF
  rw [A.tk hr']
  exact foldN_congr _ 0 _ (fun a k _ hk => by unfold woG; rw [A.rs h hr' (by omega)]))
theorem agD.ol (A : agD n lf rf tf mf lf' rf' tf' mf') (x : Int32) : olF n lf rf tf x = olF n lf' rf' tf' x := by
  unfold olF
  exact foldN_congr n 0 _ (fun a j _ hj => by
    obtain ⟨e1, e2, e3, -⟩ := A j (by omega)
    rw [e1, e2, e3])
theorem agD.lk (A : agD n lf rf tf mf lf' rf' tf' mf') (m : Int32) : ∀ (k i : Nat) (x : Int32), lkF n lf rf tf m k i x = lkF n lf' rf' tf' m k i x
  | 0, _, _ => rfl
  | k + 1, i, x => by
    show (if x >>> (m &&& 31) &&& 1 = 1 then nI i else lkF n lf rf tf m k (i + 1) (olF n lf rf tf x)) = (if x >>> (m &&& 31) &&& 1 = 1 then nI i else lkF n lf' rf' tf' m k (i + 1) (olF n lf' rf' tf' x))
    rw [A.ol, agD.lk A m k (i + 1)]
end AG
section EQ
variable {d e : DD}
theorem eqD.s (E : eqD d e) : ds d = ds e ∧ dp d = dp e ∧ dli d = dli e ∧ dn d = dn e := by
  obtain ⟨h, -⟩ := E
  unfold ds dp dli dn
  rw [h]
  exact ⟨rfl, rfl, rfl, rfl⟩
theorem eqD.de {U : Nat} (E : eqD d e) (hU : U = 4 ∨ U = 5) : deD d U = deD e U := by
  obtain ⟨⟨s, p, l, n⟩, lf, rf, tf, mf⟩ := d
  obtain ⟨⟨s', p', l', n'⟩, lf', rf', tf', mf'⟩ := e
  obtain ⟨h, A⟩ := E
  cases h
  exact dtF_congr hU (fun r c _ _ => agD.e_gN A r c)
theorem enF_c {q : Int32} {N N' : Nat → Nat → Int64} {S S' : Nat → Int64} (h1 : ∀ i j, N i j = N' i j) (h2 : ∀ i, S i = S' i) (r c : Nat) : enF q N S r c = enF q N' S' r c := by
  unfold enF
  rw [h1, h2]
theorem eqD.nu {U a : Nat} (E : eqD d e) (hU : U = 4 ∨ U = 5) : nuD d U a = nuD e U a := by
  obtain ⟨⟨s, p, l, n⟩, lf, rf, tf, mf⟩ := d
  obtain ⟨⟨s', p', l', n'⟩, lf', rf', tf', mf'⟩ := e
  obtain ⟨h, A⟩ := E
  cases h
  exact dtF_congr hU (fun r c _ _ => enF_c (agD.e_gN A) (agD.e_gS A s) r c)
theorem eqD.dx {U r : Nat} (E : eqD d e) (hU : U = 4 ∨ U = 5) (hr : r < dn e) : deX d U r = deX e U r := by
  obtain ⟨⟨s, p, l, n⟩, lf, rf, tf, mf⟩ := d
  obtain ⟨⟨s', p', l', n'⟩, lf', rf', tf', mf'⟩ := e
  obtain ⟨h, A⟩ := E
  cases h
  exact dtF_congr hU (fun i c _ _ => agD.e_gNx A hr i c)
theorem eqD.do1 {U r : Nat} (E : eqD d e) (hU : U = 4 ∨ U = 5) (hr : r < dn e) : deO d U r = deO e U r := by
  obtain ⟨⟨s, p, l, n⟩, lf, rf, tf, mf⟩ := d
  obtain ⟨⟨s', p', l', n'⟩, lf', rf', tf', mf'⟩ := e
  obtain ⟨h, A⟩ := E
  cases h
  exact dtF_congr hU (fun i c _ _ => agD.e_gN1 A hr i c)
theorem eqD.no1 {U r k a : Nat} (E : eqD d e) (hU : U = 4 ∨ U = 5) (hr : r < dn e) (hk : k < tkF (dt e) r) : nuO d U r k a = nuO e U r k a := by
  obtain ⟨⟨s, p, l, n⟩, lf, rf, tf, mf⟩ := d
  obtain ⟨⟨s', p', l', n'⟩, lf', rf', tf', mf'⟩ := e
  obtain ⟨h, A⟩ := E
  cases h
  exact dtF_congr hU (fun i c _ _ => enF_c (agD.e_gN1 A hr) (agD.e_gS1 A hr hk s) i c)
theorem eqD.rsd {U i j : Nat} (E : eqD d e) (hU : U = 4 ∨ U = 5) (hi : i < dn e) (hj : j < tkF (dt e) i) : rsD d U i j = rsD e U i j := by
  have e1 := E.de hU
  have e2 := fun a => E.nu hU (a := a)
  obtain ⟨⟨s, p, l, n⟩, lf, rf, tf, mf⟩ := d
  obtain ⟨⟨s', p', l', n'⟩, lf', rf', tf', mf'⟩ := e
  obtain ⟨h, A⟩ := E
  cases h
  unfold rsD
  rw [e1]
  exact agD.rs A (fun a _ => e2 a) hi hj
theorem eqD.bld {U : Nat} {a : Int32} (E : eqD d e) (hU : U = 4 ∨ U = 5) : blD d U a = blD e U a := by
  have e1 := E.de hU
  have e2 := fun a => E.nu hU (a := a)
  obtain ⟨⟨s, p, l, n⟩, lf, rf, tf, mf⟩ := d
  obtain ⟨⟨s', p', l', n'⟩, lf', rf', tf', mf'⟩ := e
  obtain ⟨h, A⟩ := E
  cases h
  unfold blD
  rw [e1]
  exact agD.bl A (fun a _ => e2 a) a
theorem eqD.wod {U : Nat} (E : eqD d e) (hU : U = 4 ∨ U = 5) : woD d U = woD e U := by
  have e1 := E.de hU
  have e2 := fun a => E.nu hU (a := a)
  obtain ⟨⟨s, p, l, n⟩, lf, rf, tf, mf⟩ := d
  obtain ⟨⟨s', p', l', n'⟩, lf', rf', tf', mf'⟩ := e
  obtain ⟨h, A⟩ := E
  cases h
  unfold woD
  rw [e1]
  exact congrArg (fun z : Int32 × Int64 => z.1) (agD.wo A (fun a _ => e2 a))
end EQ
