/-! ===== sets as bits ===== -/
def b32 (x : Int32) (k : Nat) : Prop := x.toBitVec.getLsbD k = true
def b64 (x : Int64) (k : Nat) : Prop := x.toBitVec.getLsbD k = true
theorem b32_or {x y : Int32} {k : Nat} : b32 (x ||| y) k ↔ b32 x k ∨ b32 y k := by
  unfold b32
  rw [show (x ||| y).toBitVec = x.toBitVec ||| y.toBitVec from rfl, BitVec.getLsbD_or, Bool.or_eq_true]
theorem b32_and {x y : Int32} {k : Nat} : b32 (x &&& y) k ↔ b32 x k ∧ b32 y k := by
  unfold b32
  rw [show (x &&& y).toBitVec = x.toBitVec &&& y.toBitVec from rfl, BitVec.getLsbD_and, Bool.and_eq_true]
theorem b64_or {x y : Int64} {k : Nat} : b64 (x ||| y) k ↔ b64 x k ∨ b64 y k := by
  unfold b64
  rw [show (x ||| y).toBitVec = x.toBitVec ||| y.toBitVec from rfl, BitVec.getLsbD_or, Bool.or_eq_true]
theorem b64_and {x y : Int64} {k : Nat} : b64 (x &&& y) k ↔ b64 x k ∧ b64 y k := by
  unfold b64
  rw [show (x &&& y).toBitVec = x.toBitVec &&& y.toBitVec from rfl, BitVec.getLsbD_and, Bool.and_eq_true]
theorem b32_0 {k : Nat} : ¬ b32 0 k := by
  unfold b32
  rw [show (0 : Int32).toBitVec = 0#32 from rfl, BitVec.getLsbD_zero]
  exact Bool.false_ne_true
theorem b64_0 {k : Nat} : ¬ b64 0 k := by
  unfold b64
  rw [show (0 : Int64).toBitVec = 0#64 from rfl, BitVec.getLsbD_zero]
  exact Bool.false_ne_true
theorem b32_lt {x : Int32} {k : Nat} (h : b32 x k) : k < 32 := by
  unfold b32 at h
  exact BitVec.lt_of_getLsbD h
theorem b64_lt {x : Int64} {k : Nat} (h : b64 x k) : k < 64 := by
  unfold b64 at h
  exact BitVec.lt_of_getLsbD h
theorem b32_not {x : Int32} {k : Nat} : b32 (x ^^^ (-1)) k ↔ k < 32 ∧ ¬ b32 x k := by
  unfold b32
  rw [show (x ^^^ (-1)).toBitVec = x.toBitVec ^^^ BitVec.allOnes 32 from rfl, BitVec.getLsbD_xor, BitVec.getLsbD_allOnes]
  by_cases h : k < 32
  · simp [h]
  · simp [h, BitVec.getLsbD_of_ge x.toBitVec k (by omega)]
theorem b32_ext {x y : Int32} (h : ∀ k, b32 x k ↔ b32 y k) : x = y := by
  apply Int32.toBitVec_inj.mp
  apply BitVec.eq_of_getLsbD_eq
  intro i hi
  have := h i
  unfold b32 at this
  exact Bool.eq_iff_iff.mpr this
theorem b64_ext {x y : Int64} (h : ∀ k, b64 x k ↔ b64 y k) : x = y := by
  apply Int64.toBitVec_inj.mp
  apply BitVec.eq_of_getLsbD_eq
  intro i hi
  have := h i
  unfold b64 at this
  exact Bool.eq_iff_iff.mpr this
theorem b32_z {x : Int32} : x = 0 ↔ ∀ k, ¬ b32 x k := ⟨fun h k => by rw [h]; exact b32_0, fun h => b32_ext (fun k => ⟨fun q => absurd q (h k), fun q => absurd q b32_0⟩)⟩
theorem b64_z {x : Int64} : x = 0 ↔ ∀ k, ¬ b64 x k := ⟨fun h k => by rw [h]; exact b64_0, fun h => b64_ext (fun k => ⟨fun q => absurd q (h k), fun q => absurd q b64_0⟩)⟩
theorem z_ofn {l : Int32} {n : Nat} (h : l.toInt = n) (hn : n < 2147483648) : l = Int32.ofNat n := by rw [z_eq, h, Int32.toInt_ofNat_of_lt hn]
/-- shift amounts -/
theorem sh32 {n : Nat} (h : n < 32) : (Int32.ofNat n &&& 31).toBitVec.smod 32 = BitVec.ofNat 32 n := by
  have : ∀ k : Fin 32, (Int32.ofNat k.1 &&& 31).toBitVec.smod 32 = BitVec.ofNat 32 k.1 := by decide
  exact this ⟨n, h⟩
theorem sh64 {n : Nat} (h : n < 64) : ((Int32.ofNat n).toInt64 &&& 63).toBitVec.smod 64 = BitVec.ofNat 64 n := by
  have : ∀ k : Fin 64, ((Int32.ofNat k.1).toInt64 &&& 63).toBitVec.smod 64 = BitVec.ofNat 64 k.1 := by decide +kernel
  exact this ⟨n, h⟩
theorem sh64u {n : Nat} (h : n < 64) : ((Int32.ofNat n).toInt64.toUInt64 &&& Int64.toUInt64 63).toNat = n := by
  have : ∀ k : Fin 64, ((Int32.ofNat k.1).toInt64.toUInt64 &&& Int64.toUInt64 63).toNat = k.1 := by decide +kernel
  exact this ⟨n, h⟩
theorem b32_shl {a l : Int32} {n k : Nat} (hl : l.toInt = n) (h : n < 32) : b32 (a <<< (l &&& 31)) k ↔ k < 32 ∧ n ≤ k ∧ b32 a (k - n) := by
  rw [z_ofn hl (by omega)]
  unfold b32
  rw [show (a <<< (Int32.ofNat n &&& 31)).toBitVec = a.toBitVec <<< ((Int32.ofNat n &&& 31).toBitVec.smod 32) from rfl, sh32 h, BitVec.shiftLeft_eq', BitVec.getLsbD_shiftLeft, BitVec.toNat_ofNat, Nat.mod_eq_of_lt (by omega)]
  simp [and_assoc]
theorem b32_1 {k : Nat} : b32 1 k ↔ k = 0 := by
  unfold b32
  rw [show (1 : Int32).toBitVec = 1#32 from rfl, BitVec.getLsbD_one]
  simp
theorem b32_2 {k : Nat} : b32 2 k ↔ k = 1 := by
  constructor
  · intro h
    have hk := b32_lt h
    unfold b32 at h
    have : ∀ j : Fin 32, (2 : Int32).toBitVec.getLsbD j.1 = true → j.1 = 1 := by decide
    exact this ⟨k, hk⟩ h
  · rintro rfl
    show (2 : Int32).toBitVec.getLsbD 1 = true
    decide
theorem b64_1 {k : Nat} : b64 1 k ↔ k = 0 := by
  unfold b64
  rw [show (1 : Int64).toBitVec = 1#64 from rfl, BitVec.getLsbD_one]
  simp
theorem b32_one {l : Int32} {n k : Nat} (hl : l.toInt = n) (h : n < 32) : b32 (1 <<< (l &&& 31)) k ↔ k = n := by
  rw [b32_shl hl h, b32_1]
  omega
theorem b32_two {l : Int32} {n k : Nat} (hl : l.toInt = n) (h : n < 31) : b32 (2 <<< (l &&& 31)) k ↔ k = n + 1 := by
  rw [b32_shl hl (by omega), b32_2]
  omega
theorem b64_one {l : Int32} {n k : Nat} (hl : l.toInt = n) (h : n < 64) : b64 (1 <<< (l.toInt64 &&& 63)) k ↔ k = n := by
  rw [z_ofn hl (by omega)]
  unfold b64
  rw [show ((1 : Int64) <<< ((Int32.ofNat n).toInt64 &&& 63)).toBitVec = (1#64) <<< (((Int32.ofNat n).toInt64 &&& 63).toBitVec.smod 64) from rfl, sh64 h, BitVec.shiftLeft_eq', BitVec.getLsbD_shiftLeft, BitVec.toNat_ofNat, Nat.mod_eq_of_lt (by omega), BitVec.getLsbD_one]
  simp
  omega
/-- the test of one bit -/
theorem b32_test {x l : Int32} {n : Nat} (hl : l.toInt = n) (h : n < 32) : ((x >>> (l &&& 31)) &&& 1) = 1 ↔ b32 x n := by
  have e : ∀ k, b32 ((x >>> (l &&& 31)) &&& 1) k ↔ k = 0 ∧ b32 x n := by
    intro k
    rw [b32_and, b32_1]
    constructor
    · rintro ⟨h1, rfl⟩
      refine ⟨rfl, ?_⟩
      rw [z_ofn hl (by omega)] at h1
      unfold b32 at h1 ⊢
      rw [show (x >>> (Int32.ofNat n &&& 31)).toBitVec = BitVec.sshiftRight' x.toBitVec ((Int32.ofNat n &&& 31).toBitVec.smod 32) from rfl, sh32 h, BitVec.sshiftRight_eq', BitVec.getLsbD_sshiftRight, BitVec.toNat_ofNat, Nat.mod_eq_of_lt (by omega)] at h1
      simp at h1
      rw [if_pos h] at h1
      exact h1
    · rintro ⟨rfl, h2⟩
      refine ⟨?_, rfl⟩
      rw [z_ofn hl (by omega)]
      unfold b32 at h2 ⊢
      rw [show (x >>> (Int32.ofNat n &&& 31)).toBitVec = BitVec.sshiftRight' x.toBitVec ((Int32.ofNat n &&& 31).toBitVec.smod 32) from rfl, sh32 h, BitVec.sshiftRight_eq', BitVec.getLsbD_sshiftRight, BitVec.toNat_ofNat, Nat.mod_eq_of_lt (by omega)]
      simp
      rw [if_pos h]
      exact h2
  constructor
  · intro q
    have := (e 0).mp (by rw [q]; exact b32_1.mpr rfl)
    exact this.2
  · intro q
    exact b32_ext (fun k => by rw [e k, b32_1]; exact ⟨fun z => z.1, fun z => ⟨z, q⟩⟩)
theorem b64_shr {x : Int64} {l : Int32} {n k : Nat} (hl : l.toInt = n) (h : n < 64) : b64 ((x.toUInt64 >>> (l.toInt64.toUInt64 &&& Int64.toUInt64 63)).toInt64) k ↔ b64 x (n + k) := by
  rw [z_ofn hl (by omega)]
  unfold b64
  have e : ((x.toUInt64 >>> ((Int32.ofNat n).toInt64.toUInt64 &&& Int64.toUInt64 63)).toInt64).toBitVec = x.toBitVec >>> n := by
    apply BitVec.eq_of_toNat_eq
    rw [show ((x.toUInt64 >>> ((Int32.ofNat n).toInt64.toUInt64 &&& Int64.toUInt64 63)).toInt64).toBitVec.toNat = (x.toUInt64 >>> ((Int32.ofNat n).toInt64.toUInt64 &&& Int64.toUInt64 63)).toNat from rfl, UInt64.toNat_shiftRight, sh64u h, BitVec.toNat_ushiftRight, Nat.mod_eq_of_lt (by omega)]
    rfl
  rw [e, BitVec.getLsbD_ushiftRight]
theorem lg0 {x : Int64} : lg_cmp x 0 = 0 ↔ x = 0 := by
  unfold lg_cmp
  constructor
  · intro h
    split at h
    · exact absurd h (by decide)
    · split at h
      · assumption
      · exact absurd h (by decide)
  · rintro rfl
    decide
theorem b64_test {x : Int64} {l : Int32} {n : Nat} (hl : l.toInt = n) (h : n < 64) : lg_cmp (((x.toUInt64 >>> (l.toInt64.toUInt64 &&& Int64.toUInt64 63)).toInt64) &&& 1) 0 = 0 ↔ ¬ b64 x n := by
  rw [lg0, b64_z]
  constructor
  · intro q z
    exact q 0 (b64_and.mpr ⟨(b64_shr hl h).mpr (by rw [Nat.add_zero]; exact z), b64_1.mpr rfl⟩)
  · intro q k z
    have := b64_and.mp z
    rw [b64_1.mp this.2] at this
    exact q (by have := (b64_shr hl h).mp this.1; rwa [Nat.add_zero] at this)
theorem b64_rest {x : Int64} {l : Int32} {n : Nat} (hl : l.toInt = n) (h : n < 64) : lg_cmp ((x.toUInt64 >>> (l.toInt64.toUInt64 &&& Int64.toUInt64 63)).toInt64) 0 = 0 ↔ ∀ k, n ≤ k → ¬ b64 x k := by
  rw [lg0, b64_z]
  constructor
  · intro q k hk z
    exact q (k - n) ((b64_shr hl h).mpr (by rw [show n + (k - n) = k by omega]; exact z))
  · intro q k z
    exact q (n + k) (by omega) ((b64_shr hl h).mp z)
