/-! The words in which the runs of methods are told -/
theorem gF0 {ci : Nat} {a0 : Value} {l : List Value} {K : Value → Prop} : x_gF (.inr (ci, a0 :: l)) ci 0 K ↔ K a0 := ⟨fun ⟨_, _, e, h, q⟩ => by cases e; cases h; exact q, fun q => ⟨_, _, rfl, rfl, q⟩⟩
theorem pF0 {ci : Nat} {a0 v : Value} {l : List Value} {K : xC → Prop} : x_pF (.inr (ci, a0 :: l)) ci 0 v K ↔ K (.inr (ci, v :: l)) := ⟨fun ⟨_, e, _, q⟩ => by cases e; exact q, fun q => ⟨_, rfl, by simp only [List.length_cons]; omega, q⟩⟩
theorem gF1 {ci : Nat} {a0 a1 : Value} {l : List Value} {K : Value → Prop} : x_gF (.inr (ci, a0 :: a1 :: l)) ci 1 K ↔ K a1 := ⟨fun ⟨_, _, e, h, q⟩ => by cases e; cases h; exact q, fun q => ⟨_, _, rfl, rfl, q⟩⟩
theorem pF1 {ci : Nat} {a0 a1 v : Value} {l : List Value} {K : xC → Prop} : x_pF (.inr (ci, a0 :: a1 :: l)) ci 1 v K ↔ K (.inr (ci, a0 :: v :: l)) := ⟨fun ⟨_, e, _, q⟩ => by cases e; exact q, fun q => ⟨_, rfl, by simp only [List.length_cons]; omega, q⟩⟩
theorem gF2 {ci : Nat} {a0 a1 a2 : Value} {l : List Value} {K : Value → Prop} : x_gF (.inr (ci, a0 :: a1 :: a2 :: l)) ci 2 K ↔ K a2 := ⟨fun ⟨_, _, e, h, q⟩ => by cases e; cases h; exact q, fun q => ⟨_, _, rfl, rfl, q⟩⟩
theorem pF2 {ci : Nat} {a0 a1 a2 v : Value} {l : List Value} {K : xC → Prop} : x_pF (.inr (ci, a0 :: a1 :: a2 :: l)) ci 2 v K ↔ K (.inr (ci, a0 :: a1 :: v :: l)) := ⟨fun ⟨_, e, _, q⟩ => by cases e; exact q, fun q => ⟨_, rfl, by simp only [List.length_cons]; omega, q⟩⟩
theorem gF3 {ci : Nat} {a0 a1 a2 a3 : Value} {l : List Value} {K : Value → Prop} : x_gF (.inr (ci, a0 :: a1 :: a2 :: a3 :: l)) ci 3 K ↔ K a3 := ⟨fun ⟨_, _, e, h, q⟩ => by cases e; cases h; exact q, fun q => ⟨_, _, rfl, rfl, q⟩⟩
theorem pF3 {ci : Nat} {a0 a1 a2 a3 v : Value} {l : List Value} {K : xC → Prop} : x_pF (.inr (ci, a0 :: a1 :: a2 :: a3 :: l)) ci 3 v K ↔ K (.inr (ci, a0 :: a1 :: a2 :: v :: l)) := ⟨fun ⟨_, e, _, q⟩ => by cases e; exact q, fun q => ⟨_, rfl, by simp only [List.length_cons]; omega, q⟩⟩
theorem gF4 {ci : Nat} {a0 a1 a2 a3 a4 : Value} {l : List Value} {K : Value → Prop} : x_gF (.inr (ci, a0 :: a1 :: a2 :: a3 :: a4 :: l)) ci 4 K ↔ K a4 := ⟨fun ⟨_, _, e, h, q⟩ => by cases e; cases h; exact q, fun q => ⟨_, _, rfl, rfl, q⟩⟩
theorem pF4 {ci : Nat} {a0 a1 a2 a3 a4 v : Value} {l : List Value} {K : xC → Prop} : x_pF (.inr (ci, a0 :: a1 :: a2 :: a3 :: a4 :: l)) ci 4 v K ↔ K (.inr (ci, a0 :: a1 :: a2 :: a3 :: v :: l)) := ⟨fun ⟨_, e, _, q⟩ => by cases e; exact q, fun q => ⟨_, rfl, by simp only [List.length_cons]; omega, q⟩⟩
theorem gF5 {ci : Nat} {a0 a1 a2 a3 a4 a5 : Value} {l : List Value} {K : Value → Prop} : x_gF (.inr (ci, a0 :: a1 :: a2 :: a3 :: a4 :: a5 :: l)) ci 5 K ↔ K a5 := ⟨fun ⟨_, _, e, h, q⟩ => by cases e; cases h; exact q, fun q => ⟨_, _, rfl, rfl, q⟩⟩
theorem pF5 {ci : Nat} {a0 a1 a2 a3 a4 a5 v : Value} {l : List Value} {K : xC → Prop} : x_pF (.inr (ci, a0 :: a1 :: a2 :: a3 :: a4 :: a5 :: l)) ci 5 v K ↔ K (.inr (ci, a0 :: a1 :: a2 :: a3 :: a4 :: v :: l)) := ⟨fun ⟨_, e, _, q⟩ => by cases e; exact q, fun q => ⟨_, rfl, by simp only [List.length_cons]; omega, q⟩⟩
theorem gF6 {ci : Nat} {a0 a1 a2 a3 a4 a5 a6 : Value} {l : List Value} {K : Value → Prop} : x_gF (.inr (ci, a0 :: a1 :: a2 :: a3 :: a4 :: a5 :: a6 :: l)) ci 6 K ↔ K a6 := ⟨fun ⟨_, _, e, h, q⟩ => by cases e; cases h; exact q, fun q => ⟨_, _, rfl, rfl, q⟩⟩
theorem pF6 {ci : Nat} {a0 a1 a2 a3 a4 a5 a6 v : Value} {l : List Value} {K : xC → Prop} : x_pF (.inr (ci, a0 :: a1 :: a2 :: a3 :: a4 :: a5 :: a6 :: l)) ci 6 v K ↔ K (.inr (ci, a0 :: a1 :: a2 :: a3 :: a4 :: a5 :: v :: l)) := ⟨fun ⟨_, e, _, q⟩ => by cases e; exact q, fun q => ⟨_, rfl, by simp only [List.length_cons]; omega, q⟩⟩
theorem gF7 {ci : Nat} {a0 a1 a2 a3 a4 a5 a6 a7 : Value} {l : List Value} {K : Value → Prop} : x_gF (.inr (ci, a0 :: a1 :: a2 :: a3 :: a4 :: a5 :: a6 :: a7 :: l)) ci 7 K ↔ K a7 := ⟨fun ⟨_, _, e, h, q⟩ => by cases e; cases h; exact q, fun q => ⟨_, _, rfl, rfl, q⟩⟩
theorem pF7 {ci : Nat} {a0 a1 a2 a3 a4 a5 a6 a7 v : Value} {l : List Value} {K : xC → Prop} : x_pF (.inr (ci, a0 :: a1 :: a2 :: a3 :: a4 :: a5 :: a6 :: a7 :: l)) ci 7 v K ↔ K (.inr (ci, a0 :: a1 :: a2 :: a3 :: a4 :: a5 :: a6 :: v :: l)) := ⟨fun ⟨_, e, _, q⟩ => by cases e; exact q, fun q => ⟨_, rfl, by simp only [List.length_cons]; omega, q⟩⟩
theorem gF8 {ci : Nat} {a0 a1 a2 a3 a4 a5 a6 a7 a8 : Value} {l : List Value} {K : Value → Prop} : x_gF (.inr (ci, a0 :: a1 :: a2 :: a3 :: a4 :: a5 :: a6 :: a7 :: a8 :: l)) ci 8 K ↔ K a8 := ⟨fun ⟨_, _, e, h, q⟩ => by cases e; cases h; exact q, fun q => ⟨_, _, rfl, rfl, q⟩⟩
theorem pF8 {ci : Nat} {a0 a1 a2 a3 a4 a5 a6 a7 a8 v : Value} {l : List Value} {K : xC → Prop} : x_pF (.inr (ci, a0 :: a1 :: a2 :: a3 :: a4 :: a5 :: a6 :: a7 :: a8 :: l)) ci 8 v K ↔ K (.inr (ci, a0 :: a1 :: a2 :: a3 :: a4 :: a5 :: a6 :: a7 :: v :: l)) := ⟨fun ⟨_, e, _, q⟩ => by cases e; exact q, fun q => ⟨_, rfl, by simp only [List.length_cons]; omega, q⟩⟩
theorem gF9 {ci : Nat} {a0 a1 a2 a3 a4 a5 a6 a7 a8 a9 : Value} {l : List Value} {K : Value → Prop} : x_gF (.inr (ci, a0 :: a1 :: a2 :: a3 :: a4 :: a5 :: a6 :: a7 :: a8 :: a9 :: l)) ci 9 K ↔ K a9 := ⟨fun ⟨_, _, e, h, q⟩ => by cases e; cases h; exact q, fun q => ⟨_, _, rfl, rfl, q⟩⟩
theorem pF9 {ci : Nat} {a0 a1 a2 a3 a4 a5 a6 a7 a8 a9 v : Value} {l : List Value} {K : xC → Prop} : x_pF (.inr (ci, a0 :: a1 :: a2 :: a3 :: a4 :: a5 :: a6 :: a7 :: a8 :: a9 :: l)) ci 9 v K ↔ K (.inr (ci, a0 :: a1 :: a2 :: a3 :: a4 :: a5 :: a6 :: a7 :: a8 :: v :: l)) := ⟨fun ⟨_, e, _, q⟩ => by cases e; exact q, fun q => ⟨_, rfl, by simp only [List.length_cons]; omega, q⟩⟩
theorem gF10 {ci : Nat} {a0 a1 a2 a3 a4 a5 a6 a7 a8 a9 a10 : Value} {l : List Value} {K : Value → Prop} : x_gF (.inr (ci, a0 :: a1 :: a2 :: a3 :: a4 :: a5 :: a6 :: a7 :: a8 :: a9 :: a10 :: l)) ci 10 K ↔ K a10 := ⟨fun ⟨_, _, e, h, q⟩ => by cases e; cases h; exact q, fun q => ⟨_, _, rfl, rfl, q⟩⟩
theorem pF10 {ci : Nat} {a0 a1 a2 a3 a4 a5 a6 a7 a8 a9 a10 v : Value} {l : List Value} {K : xC → Prop} : x_pF (.inr (ci, a0 :: a1 :: a2 :: a3 :: a4 :: a5 :: a6 :: a7 :: a8 :: a9 :: a10 :: l)) ci 10 v K ↔ K (.inr (ci, a0 :: a1 :: a2 :: a3 :: a4 :: a5 :: a6 :: a7 :: a8 :: a9 :: v :: l)) := ⟨fun ⟨_, e, _, q⟩ => by cases e; exact q, fun q => ⟨_, rfl, by simp only [List.length_cons]; omega, q⟩⟩
theorem gF11 {ci : Nat} {a0 a1 a2 a3 a4 a5 a6 a7 a8 a9 a10 a11 : Value} {l : List Value} {K : Value → Prop} : x_gF (.inr (ci, a0 :: a1 :: a2 :: a3 :: a4 :: a5 :: a6 :: a7 :: a8 :: a9 :: a10 :: a11 :: l)) ci 11 K ↔ K a11 := ⟨fun ⟨_, _, e, h, q⟩ => by cases e; cases h; exact q, fun q => ⟨_, _, rfl, rfl, q⟩⟩
theorem pF11 {ci : Nat} {a0 a1 a2 a3 a4 a5 a6 a7 a8 a9 a10 a11 v : Value} {l : List Value} {K : xC → Prop} : x_pF (.inr (ci, a0 :: a1 :: a2 :: a3 :: a4 :: a5 :: a6 :: a7 :: a8 :: a9 :: a10 :: a11 :: l)) ci 11 v K ↔ K (.inr (ci, a0 :: a1 :: a2 :: a3 :: a4 :: a5 :: a6 :: a7 :: a8 :: a9 :: a10 :: v :: l)) := ⟨fun ⟨_, e, _, q⟩ => by cases e; exact q, fun q => ⟨_, rfl, by simp only [List.length_cons]; omega, q⟩⟩
theorem gF12 {ci : Nat} {a0 a1 a2 a3 a4 a5 a6 a7 a8 a9 a10 a11 a12 : Value} {l : List Value} {K : Value → Prop} : x_gF (.inr (ci, a0 :: a1 :: a2 :: a3 :: a4 :: a5 :: a6 :: a7 :: a8 :: a9 :: a10 :: a11 :: a12 :: l)) ci 12 K ↔ K a12 := ⟨fun ⟨_, _, e, h, q⟩ => by cases e; cases h; exact q, fun q => ⟨_, _, rfl, rfl, q⟩⟩
theorem pF12 {ci : Nat} {a0 a1 a2 a3 a4 a5 a6 a7 a8 a9 a10 a11 a12 v : Value} {l : List Value} {K : xC → Prop} : x_pF (.inr (ci, a0 :: a1 :: a2 :: a3 :: a4 :: a5 :: a6 :: a7 :: a8 :: a9 :: a10 :: a11 :: a12 :: l)) ci 12 v K ↔ K (.inr (ci, a0 :: a1 :: a2 :: a3 :: a4 :: a5 :: a6 :: a7 :: a8 :: a9 :: a10 :: a11 :: v :: l)) := ⟨fun ⟨_, e, _, q⟩ => by cases e; exact q, fun q => ⟨_, rfl, by simp only [List.length_cons]; omega, q⟩⟩
theorem gF13 {ci : Nat} {a0 a1 a2 a3 a4 a5 a6 a7 a8 a9 a10 a11 a12 a13 : Value} {l : List Value} {K : Value → Prop} : x_gF (.inr (ci, a0 :: a1 :: a2 :: a3 :: a4 :: a5 :: a6 :: a7 :: a8 :: a9 :: a10 :: a11 :: a12 :: a13 :: l)) ci 13 K ↔ K a13 := ⟨fun ⟨_, _, e, h, q⟩ => by cases e; cases h; exact q, fun q => ⟨_, _, rfl, rfl, q⟩⟩
theorem pF13 {ci : Nat} {a0 a1 a2 a3 a4 a5 a6 a7 a8 a9 a10 a11 a12 a13 v : Value} {l : List Value} {K : xC → Prop} : x_pF (.inr (ci, a0 :: a1 :: a2 :: a3 :: a4 :: a5 :: a6 :: a7 :: a8 :: a9 :: a10 :: a11 :: a12 :: a13 :: l)) ci 13 v K ↔ K (.inr (ci, a0 :: a1 :: a2 :: a3 :: a4 :: a5 :: a6 :: a7 :: a8 :: a9 :: a10 :: a11 :: a12 :: v :: l)) := ⟨fun ⟨_, e, _, q⟩ => by cases e; exact q, fun q => ⟨_, rfl, by simp only [List.length_cons]; omega, q⟩⟩
theorem gF14 {ci : Nat} {a0 a1 a2 a3 a4 a5 a6 a7 a8 a9 a10 a11 a12 a13 a14 : Value} {l : List Value} {K : Value → Prop} : x_gF (.inr (ci, a0 :: a1 :: a2 :: a3 :: a4 :: a5 :: a6 :: a7 :: a8 :: a9 :: a10 :: a11 :: a12 :: a13 :: a14 :: l)) ci 14 K ↔ K a14 := ⟨fun ⟨_, _, e, h, q⟩ => by cases e; cases h; exact q, fun q => ⟨_, _, rfl, rfl, q⟩⟩
theorem pF14 {ci : Nat} {a0 a1 a2 a3 a4 a5 a6 a7 a8 a9 a10 a11 a12 a13 a14 v : Value} {l : List Value} {K : xC → Prop} : x_pF (.inr (ci, a0 :: a1 :: a2 :: a3 :: a4 :: a5 :: a6 :: a7 :: a8 :: a9 :: a10 :: a11 :: a12 :: a13 :: a14 :: l)) ci 14 v K ↔ K (.inr (ci, a0 :: a1 :: a2 :: a3 :: a4 :: a5 :: a6 :: a7 :: a8 :: a9 :: a10 :: a11 :: a12 :: a13 :: v :: l)) := ⟨fun ⟨_, e, _, q⟩ => by cases e; exact q, fun q => ⟨_, rfl, by simp only [List.length_cons]; omega, q⟩⟩
theorem gF15 {ci : Nat} {a0 a1 a2 a3 a4 a5 a6 a7 a8 a9 a10 a11 a12 a13 a14 a15 : Value} {l : List Value} {K : Value → Prop} : x_gF (.inr (ci, a0 :: a1 :: a2 :: a3 :: a4 :: a5 :: a6 :: a7 :: a8 :: a9 :: a10 :: a11 :: a12 :: a13 :: a14 :: a15 :: l)) ci 15 K ↔ K a15 := ⟨fun ⟨_, _, e, h, q⟩ => by cases e; cases h; exact q, fun q => ⟨_, _, rfl, rfl, q⟩⟩
theorem pF15 {ci : Nat} {a0 a1 a2 a3 a4 a5 a6 a7 a8 a9 a10 a11 a12 a13 a14 a15 v : Value} {l : List Value} {K : xC → Prop} : x_pF (.inr (ci, a0 :: a1 :: a2 :: a3 :: a4 :: a5 :: a6 :: a7 :: a8 :: a9 :: a10 :: a11 :: a12 :: a13 :: a14 :: a15 :: l)) ci 15 v K ↔ K (.inr (ci, a0 :: a1 :: a2 :: a3 :: a4 :: a5 :: a6 :: a7 :: a8 :: a9 :: a10 :: a11 :: a12 :: a13 :: a14 :: v :: l)) := ⟨fun ⟨_, e, _, q⟩ => by cases e; exact q, fun q => ⟨_, rfl, by simp only [List.length_cons]; omega, q⟩⟩
theorem gF16 {ci : Nat} {a0 a1 a2 a3 a4 a5 a6 a7 a8 a9 a10 a11 a12 a13 a14 a15 a16 : Value} {l : List Value} {K : Value → Prop} : x_gF (.inr (ci, a0 :: a1 :: a2 :: a3 :: a4 :: a5 :: a6 :: a7 :: a8 :: a9 :: a10 :: a11 :: a12 :: a13 :: a14 :: a15 :: a16 :: l)) ci 16 K ↔ K a16 := ⟨fun ⟨_, _, e, h, q⟩ => by cases e; cases h; exact q, fun q => ⟨_, _, rfl, rfl, q⟩⟩
theorem pF16 {ci : Nat} {a0 a1 a2 a3 a4 a5 a6 a7 a8 a9 a10 a11 a12 a13 a14 a15 a16 v : Value} {l : List Value} {K : xC → Prop} : x_pF (.inr (ci, a0 :: a1 :: a2 :: a3 :: a4 :: a5 :: a6 :: a7 :: a8 :: a9 :: a10 :: a11 :: a12 :: a13 :: a14 :: a15 :: a16 :: l)) ci 16 v K ↔ K (.inr (ci, a0 :: a1 :: a2 :: a3 :: a4 :: a5 :: a6 :: a7 :: a8 :: a9 :: a10 :: a11 :: a12 :: a13 :: a14 :: a15 :: v :: l)) := ⟨fun ⟨_, e, _, q⟩ => by cases e; exact q, fun q => ⟨_, rfl, by simp only [List.length_cons]; omega, q⟩⟩
theorem gF17 {ci : Nat} {a0 a1 a2 a3 a4 a5 a6 a7 a8 a9 a10 a11 a12 a13 a14 a15 a16 a17 : Value} {l : List Value} {K : Value → Prop} : x_gF (.inr (ci, a0 :: a1 :: a2 :: a3 :: a4 :: a5 :: a6 :: a7 :: a8 :: a9 :: a10 :: a11 :: a12 :: a13 :: a14 :: a15 :: a16 :: a17 :: l)) ci 17 K ↔ K a17 := ⟨fun ⟨_, _, e, h, q⟩ => by cases e; cases h; exact q, fun q => ⟨_, _, rfl, rfl, q⟩⟩
theorem pF17 {ci : Nat} {a0 a1 a2 a3 a4 a5 a6 a7 a8 a9 a10 a11 a12 a13 a14 a15 a16 a17 v : Value} {l : List Value} {K : xC → Prop} : x_pF (.inr (ci, a0 :: a1 :: a2 :: a3 :: a4 :: a5 :: a6 :: a7 :: a8 :: a9 :: a10 :: a11 :: a12 :: a13 :: a14 :: a15 :: a16 :: a17 :: l)) ci 17 v K ↔ K (.inr (ci, a0 :: a1 :: a2 :: a3 :: a4 :: a5 :: a6 :: a7 :: a8 :: a9 :: a10 :: a11 :: a12 :: a13 :: a14 :: a15 :: a16 :: v :: l)) := ⟨fun ⟨_, e, _, q⟩ => by cases e; exact q, fun q => ⟨_, rfl, by simp only [List.length_cons]; omega, q⟩⟩
theorem gF18 {ci : Nat} {a0 a1 a2 a3 a4 a5 a6 a7 a8 a9 a10 a11 a12 a13 a14 a15 a16 a17 a18 : Value} {l : List Value} {K : Value → Prop} : x_gF (.inr (ci, a0 :: a1 :: a2 :: a3 :: a4 :: a5 :: a6 :: a7 :: a8 :: a9 :: a10 :: a11 :: a12 :: a13 :: a14 :: a15 :: a16 :: a17 :: a18 :: l)) ci 18 K ↔ K a18 := ⟨fun ⟨_, _, e, h, q⟩ => by cases e; cases h; exact q, fun q => ⟨_, _, rfl, rfl, q⟩⟩
theorem pF18 {ci : Nat} {a0 a1 a2 a3 a4 a5 a6 a7 a8 a9 a10 a11 a12 a13 a14 a15 a16 a17 a18 v : Value} {l : List Value} {K : xC → Prop} : x_pF (.inr (ci, a0 :: a1 :: a2 :: a3 :: a4 :: a5 :: a6 :: a7 :: a8 :: a9 :: a10 :: a11 :: a12 :: a13 :: a14 :: a15 :: a16 :: a17 :: a18 :: l)) ci 18 v K ↔ K (.inr (ci, a0 :: a1 :: a2 :: a3 :: a4 :: a5 :: a6 :: a7 :: a8 :: a9 :: a10 :: a11 :: a12 :: a13 :: a14 :: a15 :: a16 :: a17 :: v :: l)) := ⟨fun ⟨_, e, _, q⟩ => by cases e; exact q, fun q => ⟨_, rfl, by simp only [List.length_cons]; omega, q⟩⟩
theorem gF19 {ci : Nat} {a0 a1 a2 a3 a4 a5 a6 a7 a8 a9 a10 a11 a12 a13 a14 a15 a16 a17 a18 a19 : Value} {l : List Value} {K : Value → Prop} : x_gF (.inr (ci, a0 :: a1 :: a2 :: a3 :: a4 :: a5 :: a6 :: a7 :: a8 :: a9 :: a10 :: a11 :: a12 :: a13 :: a14 :: a15 :: a16 :: a17 :: a18 :: a19 :: l)) ci 19 K ↔ K a19 := ⟨fun ⟨_, _, e, h, q⟩ => by cases e; cases h; exact q, fun q => ⟨_, _, rfl, rfl, q⟩⟩
theorem pF19 {ci : Nat} {a0 a1 a2 a3 a4 a5 a6 a7 a8 a9 a10 a11 a12 a13 a14 a15 a16 a17 a18 a19 v : Value} {l : List Value} {K : xC → Prop} : x_pF (.inr (ci, a0 :: a1 :: a2 :: a3 :: a4 :: a5 :: a6 :: a7 :: a8 :: a9 :: a10 :: a11 :: a12 :: a13 :: a14 :: a15 :: a16 :: a17 :: a18 :: a19 :: l)) ci 19 v K ↔ K (.inr (ci, a0 :: a1 :: a2 :: a3 :: a4 :: a5 :: a6 :: a7 :: a8 :: a9 :: a10 :: a11 :: a12 :: a13 :: a14 :: a15 :: a16 :: a17 :: a18 :: v :: l)) := ⟨fun ⟨_, e, _, q⟩ => by cases e; exact q, fun q => ⟨_, rfl, by simp only [List.length_cons]; omega, q⟩⟩
/-- a place that an array has (a word of its own, so that simp leaves it whole) -/
def x_pl (i : Int32) (n : Nat) : Prop := x_in i n
theorem aI_mk {t n : Nat} {f : Nat → Int32} {i : Int32} {K : Int32 → Prop} : x_aI (.inl (t, n, .inl f)) t i K ↔ x_pl i n ∧ K (f i.toNatClampNeg) := ⟨fun ⟨_, _, e, h, q⟩ => by cases e; exact ⟨h, q⟩, fun ⟨h, q⟩ => ⟨_, _, rfl, h, q⟩⟩
theorem aL_mk {n : Nat} {f : Nat → Int64} {i : Int32} {K : Int64 → Prop} : x_aL (.inl (1, n, .inr (.inl f))) i K ↔ x_pl i n ∧ K (f i.toNatClampNeg) := ⟨fun ⟨_, _, e, h, q⟩ => by cases e; exact ⟨h, q⟩, fun ⟨h, q⟩ => ⟨_, _, rfl, h, q⟩⟩
theorem aA_mk {t n : Nat} {f : Nat → Option Nat} {i : Int32} {K : Nat → Prop} : x_aA (.inl (t, n, .inr (.inr (.inr (.inr f))))) i K ↔ (t = 3 ∨ t = 4) ∧ x_pl i n ∧ ∃ q, f i.toNatClampNeg = some q ∧ K q := ⟨fun ⟨_, _, _, q, e, h1, h2, h3, h4⟩ => by cases e; exact ⟨h1, h2, q, h3, h4⟩, fun ⟨h1, h2, q, h3, h4⟩ => ⟨_, _, _, q, rfl, h1, h2, h3, h4⟩⟩
theorem sI_mk {t n : Nat} {f : Nat → Int32} {i x : Int32} {K : xC → Prop} : x_sI (.inl (t, n, .inl f)) t i x K ↔ x_pl i n ∧ K (.inl (t, n, .inl (upd f i.toNatClampNeg x))) := ⟨fun ⟨_, _, e, h, q⟩ => by cases e; exact ⟨h, q⟩, fun ⟨h, q⟩ => ⟨_, _, rfl, h, q⟩⟩
theorem sL_mk {n : Nat} {f : Nat → Int64} {i : Int32} {x : Int64} {K : xC → Prop} : x_sL (.inl (1, n, .inr (.inl f))) i x K ↔ x_pl i n ∧ K (.inl (1, n, .inr (.inl (vp_updL f i.toNatClampNeg x)))) := ⟨fun ⟨_, _, e, h, q⟩ => by cases e; exact ⟨h, q⟩, fun ⟨h, q⟩ => ⟨_, _, rfl, h, q⟩⟩
theorem sA_mk {n x : Nat} {f : Nat → Option Nat} {fs : List Value} {i : Int32} {K : xC → Prop} : x_sA (.inl (3, n, .inr (.inr (.inr (.inr f))))) (.inr (0, fs)) i x K ↔ x_pl i n ∧ K (.inl (3, n, .inr (.inr (.inr (.inr (va_up f i.toNatClampNeg (some x))))))) := ⟨fun ⟨_, _, _, e, h, e2, q⟩ => by cases e; exact ⟨h, q⟩, fun ⟨h, q⟩ => ⟨_, _, _, rfl, h, rfl, q⟩⟩
theorem isO_mk {ci : Nat} {fs : List Value} : x_isO (.inr (ci, fs)) ci ↔ True := ⟨fun _ => trivial, fun _ => ⟨fs, rfl⟩⟩
theorem rl_some {v : Value} {st : List Value} : rl (some v) st = v :: st := rfl
theorem rl_none {st : List Value} : rl none st = st := rfl
theorem wr_1 {w : xW} {a : Nat} {c : xC} : (wr w a c).1 = w.1 := rfl
theorem rd_wr {w : xW} {a k : Nat} {c : xC} : rd (wr w a c) k = if k = a then c else rd w k := rfl
theorem rd_s {w : xW} {a : Nat} {c : xC} : rd (wr w a c) a = c := if_pos rfl
theorem rd_n {w : xW} {a k : Nat} {c : xC} (h : k ≠ a) : rd (wr w a c) k = rd w k := if_neg h
/-- 1 if it holds, else 0 -/
def bI (c : Prop) [Decidable c] : Int32 := if c then 1 else 0
theorem bI_0 {c : Prop} [Decidable c] : bI c = 0 ↔ ¬ c := by
  unfold bI
  by_cases h : c <;> simp [h]
theorem bI_n {c : Prop} [Decidable c] : (¬ bI c = 0) ↔ c := by rw [bI_0, Classical.not_not]
theorem bI_01 {c : Prop} [Decidable c] : (bI c = 0 ∨ bI c = 1) ↔ True := by
  unfold bI
  by_cases h : c <;> simp [h]
theorem bI_t {c : Prop} [Decidable c] (h : c) : bI c = 1 := if_pos h
theorem bI_f {c : Prop} [Decidable c] (h : ¬ c) : bI c = 0 := if_neg h
theorem z_01 : ((0 : Int32) = 0 ∨ (0 : Int32) = 1) ↔ True := ⟨fun _ => trivial, fun _ => Or.inl rfl⟩
theorem o_01 : ((1 : Int32) = 0 ∨ (1 : Int32) = 1) ↔ True := ⟨fun _ => trivial, fun _ => Or.inr rfl⟩
theorem x_in_nI {j n : Nat} (h : j < n) (hn : n ≤ 1000) : x_in (nI j) n := ⟨nI_pos (by omega), by rw [nI_clamp (by omega)]; exact h⟩
theorem cl_nI {j : Nat} (h : j ≤ 1000) : (nI j).toNatClampNeg = j := nI_clamp (by omega)
theorem nI_lt' {a b : Nat} (ha : a ≤ 1000) (hb : b ≤ 1000) : nI a < nI b ↔ a < b := nI_ltI (by omega) (by omega)
theorem nI_le' {a b : Nat} (ha : a ≤ 1000) (hb : b ≤ 1000) : nI a ≤ nI b ↔ a ≤ b := nI_leI (by omega) (by omega)
theorem nI_eq' {a b : Nat} (ha : a ≤ 1000) (hb : b ≤ 1000) : nI a = nI b ↔ a = b := nI_eq (by omega) (by omega)
/-! A design's cells: the object at o, its four rows behind it -/
def isD (w : xW) (o : Nat) (s p l : Int32) (n : Nat) (lf rf tf mf : Nat → Int32) : Prop := rd w o = .inr (0, [.int s, .int p, .int l, .int (nI n), .ref (o + 1), .ref (o + 2), .ref (o + 3), .ref (o + 4)]) ∧ rd w (o + 1) = .inl (0, 12, .inl lf) ∧ rd w (o + 2) = .inl (0, 12, .inl rf) ∧ rd w (o + 3) = .inl (0, 12, .inl tf) ∧ rd w (o + 4) = .inl (0, 72, .inl mf)
theorem x_pl_nI {j n : Nat} (h : j < n) (hn : n ≤ 1000) : x_pl (nI j) n := x_in_nI h hn
theorem x_pl_of {i : Int32} {n : Nat} (h : x_in i n) : x_pl i n := h
/-- steps i, i + 1 .., k of them -/
def foldN {α : Type} (g : α → Nat → α) : Nat → Nat → α → α
  | 0, _, a => a
  | k + 1, i, a => foldN g k (i + 1) (g a i)
theorem foldN_congr {α : Type} {g g' : α → Nat → α} : ∀ (k i : Nat) (a : α), (∀ a j, i ≤ j → j < i + k → g a j = g' a j) → foldN g k i a = foldN g' k i a
  | 0, _, _, _ => rfl
  | k + 1, i, a, h => by
    show foldN g k (i + 1) (g a i) = foldN g' k (i + 1) (g' a i)
    rw [h a i (Nat.le_refl _) (by omega)]
    exact foldN_congr k (i + 1) _ (fun a j h1 h2 => h a j (by omega) (by omega))
/-- the first place from i on, of k, where P holds; else -1 -/
def fndN (P : Nat → Bool) : Nat → Nat → Int32
  | 0, _ => -1
  | k + 1, i => if P i = true then nI i else fndN P k (i + 1)
theorem fndN_congr {P P' : Nat → Bool} : ∀ (k i : Nat), (∀ j, i ≤ j → j < i + k → P j = P' j) → fndN P k i = fndN P' k i
  | 0, _, _ => rfl
  | k + 1, i, h => by
    show (if P i = true then nI i else fndN P k (i + 1)) = (if P' i = true then nI i else fndN P' k (i + 1))
    rw [h i (Nat.le_refl _) (by omega), fndN_congr k (i + 1) (fun j h1 h2 => h j (by omega) (by omega))]
theorem fndN_or {P : Nat → Bool} : ∀ (k i : Nat), fndN P k i = -1 ∨ ∃ j, i ≤ j ∧ j < i + k ∧ P j = true ∧ fndN P k i = nI j
  | 0, _ => Or.inl rfl
  | k + 1, i => by
    by_cases h : P i = true
    · exact Or.inr ⟨i, Nat.le_refl _, by omega, h, if_pos h⟩
    · have e : fndN P (k + 1) i = fndN P k (i + 1) := if_neg h
      rw [e]
      rcases fndN_or k (i + 1) with h1 | ⟨j, h1, h2, h3, h4⟩
      · exact Or.inl h1
      · exact Or.inr ⟨j, by omega, by omega, h3, h4⟩
/-- how many readings a row has -/
def tkF (tf : Nat → Int32) (i : Nat) : Nat := (tf i).toNatClampNeg
/-- rows and readings within their limits -/
def vT (n : Nat) (tf : Nat → Int32) : Prop := n ≤ 12 ∧ ∀ i, i < n → tf i = nI (tkF tf i) ∧ tkF tf i ≤ 6
theorem nI_m1 {a : Nat} (h : a ≤ 1000) : ¬ nI a = -1 := by
  intro e
  have := congrArg Int32.toInt e
  rw [nI_toInt (by omega)] at this
  simp at this
/-- an int that a design has as a row's number is one -/
theorem row_of {r : Int32} {n : Nat} (hn : n ≤ 12) (h1 : ¬ r < 0) (h2 : r < nI n) : ∃ i, i < n ∧ r = nI i := by
  rcases pk_ix r (n := n) (by omega) with h | h | h
  · exact absurd h h1
  · exact absurd h2 (Int32.not_lt.mpr h)
  · exact h
