/-! ===== a mirror answers, and its answer and state keep P ===== -/
def uOk {α : Type} (m : Option (α × SG)) (P : α → SG → Prop) : Prop := ∃ a σ, m = some (a, σ) ∧ P a σ
theorem ok_some {α : Type} {a : α} {σ : SG} {P : α → SG → Prop} : uOk (some (a, σ)) P ↔ P a σ := ⟨fun ⟨_, _, h, q⟩ => by cases h; exact q, fun q => ⟨a, σ, rfl, q⟩⟩
theorem ok_lS {α β : Type} {a : β} {f : β → Option (α × SG)} {P : α → SG → Prop} : uOk (lS a f) P ↔ uOk (f a) P := Iff.rfl
theorem ok_gB {α : Type} {b : Bool} {k : Option (α × SG)} {P : α → SG → Prop} : uOk (gB b k) P ↔ b = true ∧ uOk k P := by
  unfold gB uOk
  cases b <;> simp
theorem ok_bi {α β : Type} {m : Option (β × SG)} {f : β → SG → Option (α × SG)} {P : α → SG → Prop} : uOk (bi m f) P ↔ uOk m (fun a σ => uOk (f a σ) P) := by
  constructor
  · intro ⟨a, σ, h, q⟩
    obtain ⟨x, σ1, h1, h2⟩ := bi_e h
    exact ⟨x, σ1, h1, a, σ, h2, q⟩
  · intro ⟨x, σ1, h1, a, σ, h2, q⟩
    refine ⟨a, σ, ?_, q⟩
    rw [h1]
    exact h2
theorem ok_if {α : Type} {c : Prop} [Decidable c] {a b : Option (α × SG)} {P : α → SG → Prop} : uOk (if c then a else b) P ↔ (c → uOk a P) ∧ (¬ c → uOk b P) := by
  by_cases h : c <;> simp [h]
theorem uOk.mono {α : Type} {m : Option (α × SG)} {P Q : α → SG → Prop} (h : uOk m P) (k : ∀ a σ, P a σ → Q a σ) : uOk m Q := by
  obtain ⟨a, σ, h1, h2⟩ := h
  exact ⟨a, σ, h1, k a σ h2⟩
theorem ok_of {α : Type} {m : Option (α × SG)} {a : α} {σ : SG} {P : α → SG → Prop} (h : m = some (a, σ)) (q : P a σ) : uOk m P := ⟨a, σ, h, q⟩
/-! numbers -/
theorem z_le {a b : Int32} : a ≤ b ↔ a.toInt ≤ b.toInt := Int32.le_iff_toInt_le
theorem z_lt {a b : Int32} : a < b ↔ a.toInt < b.toInt := Int32.lt_iff_toInt_lt
theorem z_eq {a b : Int32} : a = b ↔ a.toInt = b.toInt := Int32.toInt_inj.symm
theorem z_nat (a : Int32) : a.toNatClampNeg = a.toInt.toNat := rfl
theorem z_bmod {x : Int} (h : -2147483648 ≤ x) (h2 : x < 2147483648) : x.bmod (2 ^ 32) = x := by
  rw [Int.bmod_eq_of_le] <;> omega
theorem z_add {a b : Int32} (h : -2147483648 ≤ a.toInt + b.toInt) (h2 : a.toInt + b.toInt < 2147483648) : (a + b).toInt = a.toInt + b.toInt := by
  rw [Int32.toInt_add, z_bmod h h2]
theorem z_sub {a b : Int32} (h : -2147483648 ≤ a.toInt - b.toInt) (h2 : a.toInt - b.toInt < 2147483648) : (a - b).toInt = a.toInt - b.toInt := by
  rw [Int32.toInt_sub, z_bmod h h2]
theorem z_mul {a b : Int32} (h : -2147483648 ≤ a.toInt * b.toInt) (h2 : a.toInt * b.toInt < 2147483648) : (a * b).toInt = a.toInt * b.toInt := by
  rw [Int32.toInt_mul, z_bmod h h2]
theorem z_in {i : Int32} {n : Nat} : inB i n = true ↔ 0 ≤ i.toInt ∧ i.toInt < n := by
  unfold inB
  rw [decide_eq_true_iff, z_lt, z_nat]
  show ¬ (i.toInt < 0 ∨ _) ↔ _
  omega
theorem z_lo (i : Int32) : -2147483648 ≤ i.toInt := Int32.le_toInt i
theorem z_hi (i : Int32) : i.toInt < 2147483648 := Int32.toInt_lt i
/-! reading what was written -/
theorem g_sI {σ : SG} {k i k' i' : Nat} {x : Int32} : (sI σ k i x).1 k' i' = if k' = k ∧ i' = i then x else σ.1 k' i' := by
  unfold sI va_up upd
  by_cases h : k' = k <;> by_cases h2 : i' = i <;> simp [h, h2]
theorem g_sI2 {σ : SG} {k i : Nat} {x : Int32} : (sI σ k i x).2 = σ.2 := rfl
theorem g_sI_s {σ : SG} {k i : Nat} {x : Int32} : (sI σ k i x).1 k i = x := by rw [g_sI]; simp
theorem g_sJ {σ : SG} {k i k' i' : Nat} {x : Int64} : (sJ σ k i x).2.1 k' i' = if k' = k ∧ i' = i then x else σ.2.1 k' i' := by
  unfold sJ va_up vp_updL
  by_cases h : k' = k <;> by_cases h2 : i' = i <;> simp [h, h2]
theorem g_sJ1 {σ : SG} {k i : Nat} {x : Int64} : (sJ σ k i x).1 = σ.1 := rfl
theorem g_sJ3 {σ : SG} {k i : Nat} {x : Int64} : (sJ σ k i x).2.2 = σ.2.2 := rfl
/-! one step at a time -/
theorem ok_ite {α : Type} {c : Prop} [Decidable c] {a b : Option (α × SG)} {P : α → SG → Prop} (h : c → uOk a P) (h2 : ¬ c → uOk b P) : uOk (if c then a else b) P := ok_if.mpr ⟨h, h2⟩
theorem ok_g {α : Type} {b : Bool} {k : Option (α × SG)} {P : α → SG → Prop} (h : b = true) (h2 : uOk k P) : uOk (gB b k) P := ok_gB.mpr ⟨h, h2⟩
theorem ok_b {α β : Type} {m : Option (β × SG)} {f : β → SG → Option (α × SG)} {P : α → SG → Prop} {Q : β → SG → Prop} (h : uOk m Q) (h2 : ∀ a σ, Q a σ → uOk (f a σ) P) : uOk (bi m f) P := ok_bi.mpr (h.mono h2)
theorem ok_r {α : Type} {a : α} {σ : SG} {P : α → SG → Prop} (h : P a σ) : uOk (some (a, σ)) P := ok_some.mpr h
theorem ok_l {α β : Type} {a : β} {f : β → Option (α × SG)} {P : α → SG → Prop} (h : ∀ z, z = a → uOk (f z) P) : uOk (lS a f) P := h a rfl
theorem ok_i {i : Int32} {n : Nat} {α : Type} {k : Option (α × SG)} {P : α → SG → Prop} (h : 0 ≤ i.toInt ∧ i.toInt < n) (h2 : uOk k P) : uOk (gB (inB i n) k) P := ok_g (z_in.mpr h) h2
theorem z_add1 {a : Int32} (h : a.toInt < 2147483647) : (a + 1).toInt = a.toInt + 1 := z_add (a := a) (b := 1) (by have := z_lo a; show _ ≤ _ + (1 : Int); omega) (by show _ + (1 : Int) < _; omega)
theorem z_sub1 {a : Int32} (h : -2147483648 < a.toInt) : (a - 1).toInt = a.toInt - 1 := z_sub (a := a) (b := 1) (by show _ ≤ _ - (1 : Int); omega) (by have := z_hi a; show _ - (1 : Int) < _; omega)
