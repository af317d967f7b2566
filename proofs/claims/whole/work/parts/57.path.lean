/-! ===== ways through two rows: steps, paths, the least cost ===== -/
abbrev WD : Type := (Nat × Nat) × ((Nat → Int) × (Nat → Int)) × ((Nat → Int) × (Nat → Int)) × (Nat → Int) × Int
def wn (d : WD) : Nat := d.1.1
def wm (d : WD) : Nat := d.1.2
def wpa (d : WD) : Nat → Int := d.2.1.1
def wla (d : WD) : Nat → Int := d.2.1.2
def wpb (d : WD) : Nat → Int := d.2.2.1.1
def wlb (d : WD) : Nat → Int := d.2.2.1.2
def wK (d : WD) : Nat → Int := d.2.2.2.1
def uws (d : WD) : Int := d.2.2.2.2
def zabs (x : Int) : Int := if 0 ≤ x then x else -x
def wpr (d : WD) (i j : Nat) : Int := if wpa d i < 0 ∧ wpb d j < 0 then 0 else if wpa d i < 0 ∨ wpb d j < 0 then wK d 4 else wK d 0 * zabs (wpa d i + uws d - wpb d j)
def uwsb (d : WD) (i j : Nat) : Nat → Int
  | 0 => 0
  | k + 1 => uwsb d i j k + wpr d i (j + k)
def wlbs (d : WD) (j : Nat) : Nat → Int
  | 0 => 0
  | k + 1 => wlbs d j k + wlb d (j + k)
def wsa (d : WD) (i j : Nat) : Nat → Int
  | 0 => 0
  | k + 1 => wsa d i j k + wpr d (i + k) j
def wlas (d : WD) (i : Nat) : Nat → Int
  | 0 => 0
  | k + 1 => wlas d i k + wla d (i + k)
def ucB (d : WD) (i j k : Nat) : Int := wK d 1 * zabs (wla d i - wlbs d j k) + uwsb d i j k
def cA (d : WD) (i j k : Nat) : Int := wK d 1 * zabs (wlas d i k - wlb d j) + wsa d i j k
def uStp (d : WD) (i j i' j' : Nat) (c : Int) : Prop :=
  (i < wn d ∧ i' = i + 1 ∧ j' = j ∧ c = wK d 2 * wla d i) ∨ (j < wm d ∧ i' = i ∧ j' = j + 1 ∧ c = wK d 3 * wlb d j) ∨
  (∃ k, 1 ≤ k ∧ k ≤ 4 ∧ i < wn d ∧ j + k ≤ wm d ∧ i' = i + 1 ∧ j' = j + k ∧ c = ucB d i j k) ∨ (∃ k, 1 ≤ k ∧ k ≤ 4 ∧ j < wm d ∧ i + k ≤ wn d ∧ i' = i + k ∧ j' = j + 1 ∧ c = cA d i j k)
/-- the rows' bounds -/
def WB (d : WD) : Prop := wn d ≤ 24 ∧ wm d ≤ 24 ∧ (∀ i, i < wn d → -1 ≤ wpa d i ∧ wpa d i ≤ 127 ∧ 1 ≤ wla d i ∧ wla d i ≤ 64) ∧ (∀ j, j < wm d → -1 ≤ wpb d j ∧ wpb d j ≤ 127 ∧ 1 ≤ wlb d j ∧ wlb d j ≤ 64) ∧ KB (wK d) ∧ -24 ≤ uws d ∧ uws d ≤ 24
theorem zabs_b {x b : Int} (h : -b ≤ x) (h2 : x ≤ b) : 0 ≤ zabs x ∧ zabs x ≤ b := by unfold zabs; split <;> omega
theorem mul_b {a x A X : Int} (h : 0 ≤ a) (h1 : a ≤ A) (h2 : 0 ≤ x) (h3 : x ≤ X) : 0 ≤ a * x ∧ a * x ≤ A * X := ⟨Int.mul_nonneg h h2, Int.mul_le_mul h1 h3 h2 (Int.le_trans h h1)⟩
theorem wpr_b {d : WD} (h : WB d) {i j : Nat} (hi : i < wn d) (hj : j < wm d) : 0 ≤ wpr d i j ∧ wpr d i j ≤ 151000 := by
  obtain ⟨-, -, ha, hb, hK, s1, s2⟩ := h
  have a1 := ha i hi
  have b1 := hb j hj
  have k4 := hK 4 (by omega)
  have k0 := hK 0 (by omega)
  unfold wpr
  split
  · omega
  · split
    · omega
    · have := zabs_b (x := wpa d i + uws d - wpb d j) (b := 151) (by omega) (by omega)
      have := mul_b k0.1 k0.2 this.1 this.2
      omega
theorem wsb_b {d : WD} (h : WB d) {i j : Nat} (hi : i < wn d) : ∀ k, j + k ≤ wm d → 0 ≤ uwsb d i j k ∧ uwsb d i j k ≤ 151000 * k
  | 0, _ => by unfold uwsb; omega
  | k + 1, q => by
    have h1 := wsb_b (j := j) h hi k (by omega)
    have h2 := wpr_b h hi (j := j + k) (by omega)
    show 0 ≤ uwsb d i j k + wpr d i (j + k) ∧ uwsb d i j k + wpr d i (j + k) ≤ _
    omega
theorem wsa_b {d : WD} (h : WB d) {i j : Nat} (hj : j < wm d) : ∀ k, i + k ≤ wn d → 0 ≤ wsa d i j k ∧ wsa d i j k ≤ 151000 * k
  | 0, _ => by unfold wsa; omega
  | k + 1, q => by
    have h1 := wsa_b (i := i) h hj k (by omega)
    have h2 := wpr_b h (i := i + k) (by omega) hj
    show 0 ≤ wsa d i j k + wpr d (i + k) j ∧ wsa d i j k + wpr d (i + k) j ≤ _
    omega
theorem wlbs_b {d : WD} (h : WB d) {j : Nat} : ∀ k, j + k ≤ wm d → 0 ≤ wlbs d j k ∧ wlbs d j k ≤ 64 * k
  | 0, _ => by unfold wlbs; omega
  | k + 1, q => by
    have h1 := wlbs_b (j := j) h k (by omega)
    have h2 := h.2.2.2.1 (j + k) (by omega)
    show 0 ≤ wlbs d j k + wlb d (j + k) ∧ wlbs d j k + wlb d (j + k) ≤ _
    omega
theorem wlas_b {d : WD} (h : WB d) {i : Nat} : ∀ k, i + k ≤ wn d → 0 ≤ wlas d i k ∧ wlas d i k ≤ 64 * k
  | 0, _ => by unfold wlas; omega
  | k + 1, q => by
    have h1 := wlas_b (i := i) h k (by omega)
    have h2 := h.2.2.1 (i + k) (by omega)
    show 0 ≤ wlas d i k + wla d (i + k) ∧ wlas d i k + wla d (i + k) ≤ _
    omega
theorem cB_b {d : WD} (h : WB d) {i j k : Nat} (hi : i < wn d) (hk : j + k ≤ wm d) (h4 : k ≤ 4) : uwsb d i j k ≤ ucB d i j k ∧ ucB d i j k ≤ 860000 := by
  have h1 := wsb_b h hi k hk
  have h2 := wlbs_b h k hk
  have h3 := h.2.2.1 i hi
  have k1 := h.2.2.2.2.1 1 (by omega)
  have z := zabs_b (x := wla d i - wlbs d j k) (b := 256) (by omega) (by omega)
  have := mul_b k1.1 k1.2 z.1 z.2
  unfold ucB
  omega
theorem cA_b {d : WD} (h : WB d) {i j k : Nat} (hj : j < wm d) (hk : i + k ≤ wn d) (h4 : k ≤ 4) : wsa d i j k ≤ cA d i j k ∧ cA d i j k ≤ 860000 := by
  have h1 := wsa_b h hj k hk
  have h2 := wlas_b h k hk
  have h3 := h.2.2.2.1 j hj
  have k1 := h.2.2.2.2.1 1 (by omega)
  have z := zabs_b (x := wlas d i k - wlb d j) (b := 256) (by omega) (by omega)
  have := mul_b k1.1 k1.2 z.1 z.2
  unfold cA
  omega
theorem alA_b {d : WD} (h : WB d) {i : Nat} (hi : i < wn d) : 0 ≤ wK d 2 * wla d i ∧ wK d 2 * wla d i ≤ 64000 := by
  have h3 := h.2.2.1 i hi
  have k1 := h.2.2.2.2.1 2 (by omega)
  have := mul_b k1.1 k1.2 (show 0 ≤ wla d i by omega) h3.2.2.2
  omega
theorem alB_b {d : WD} (h : WB d) {j : Nat} (hj : j < wm d) : 0 ≤ wK d 3 * wlb d j ∧ wK d 3 * wlb d j ≤ 64000 := by
  have h3 := h.2.2.2.1 j hj
  have k1 := h.2.2.2.2.1 3 (by omega)
  have := mul_b k1.1 k1.2 (show 0 ≤ wlb d j by omega) h3.2.2.2
  omega
theorem uStp.b {d : WD} (h : WB d) {i j i' j' : Nat} {c : Int} (q : uStp d i j i' j' c) : 0 ≤ c ∧ c ≤ 860000 ∧ i ≤ i' ∧ j ≤ j' ∧ i + j < i' + j' ∧ (i ≤ wn d → i' ≤ wn d) ∧ (j ≤ wm d → j' ≤ wm d) := by
  rcases q with ⟨h1, h2, h3, h4⟩ | ⟨h1, h2, h3, h4⟩ | ⟨k, h1, h2, h3, h4, h5, h6, h7⟩ | ⟨k, h1, h2, h3, h4, h5, h6, h7⟩
  · have := alA_b h h1; omega
  · have := alB_b h h1; omega
  · have := cB_b h h3 h4 h2; have := wsb_b h h3 k h4; omega
  · have := cA_b h h3 h4 h2; have := wsa_b h h3 k h4; omega
/-- a path of k steps -/
def uPn (d : WD) (i0 j0 : Nat) : Nat → Nat → Nat → Int → Prop
  | 0, i, j, c => i = i0 ∧ j = j0 ∧ c = 0
  | k + 1, i, j, c => ∃ i1 j1 c1 c2, uPn d i0 j0 k i1 j1 c1 ∧ uStp d i1 j1 i j c2 ∧ c = c1 + c2
def Pth (d : WD) (i0 j0 i j : Nat) (c : Int) : Prop := ∃ k, uPn d i0 j0 k i j c
theorem Pth.rf {d : WD} {i j : Nat} : Pth d i j i j 0 := ⟨0, rfl, rfl, rfl⟩
theorem Pth.snoc {d : WD} {i0 j0 i j i' j' : Nat} {c e : Int} (h : Pth d i0 j0 i j c) (q : uStp d i j i' j' e) : Pth d i0 j0 i' j' (c + e) := by
  obtain ⟨k, h⟩ := h
  exact ⟨k + 1, i, j, c, e, h, q, rfl⟩
theorem Pth.cons {d : WD} {i0 j0 i1 j1 i j : Nat} {c e : Int} (q : uStp d i0 j0 i1 j1 e) (h : Pth d i1 j1 i j c) : Pth d i0 j0 i j (e + c) := by
  obtain ⟨k, h⟩ := h
  induction k generalizing i j c with
  | zero =>
    obtain ⟨rfl, rfl, rfl⟩ := h
    have := Pth.rf.snoc q
    rwa [Int.zero_add, ← Int.add_zero e] at this
  | succ k ih =>
    obtain ⟨i2, j2, c1, c2, h1, h2, rfl⟩ := h
    have := (ih h1).snoc h2
    rwa [Int.add_assoc] at this
/-- the first step of a path -/
theorem Pth.head {d : WD} {i0 j0 i j : Nat} {c : Int} (h : Pth d i0 j0 i j c) : (i = i0 ∧ j = j0 ∧ c = 0) ∨ ∃ i1 j1 e c1, uStp d i0 j0 i1 j1 e ∧ Pth d i1 j1 i j c1 ∧ c = e + c1 := by
  obtain ⟨k, h⟩ := h
  induction k generalizing i j c with
  | zero => exact Or.inl h
  | succ k ih =>
    obtain ⟨i2, j2, c1, c2, h1, h2, rfl⟩ := h
    rcases ih h1 with ⟨rfl, rfl, rfl⟩ | ⟨i1, j1, e, c3, g1, g2, rfl⟩
    · exact Or.inr ⟨i, j, c2, 0, h2, Pth.rf, by omega⟩
    · exact Or.inr ⟨i1, j1, e, c3 + c2, g1, g2.snoc h2, by omega⟩
theorem Pth.b {d : WD} (h : WB d) {i0 j0 i j : Nat} {c : Int} (q : Pth d i0 j0 i j c) : 0 ≤ c ∧ i0 ≤ i ∧ j0 ≤ j ∧ (i0 ≤ wn d → i ≤ wn d) ∧ (j0 ≤ wm d → j ≤ wm d) := by
  obtain ⟨k, q⟩ := q
  induction k generalizing i j c with
  | zero => obtain ⟨rfl, rfl, rfl⟩ := q; exact ⟨Int.le_refl _, Nat.le_refl _, Nat.le_refl _, id, id⟩
  | succ k ih =>
    obtain ⟨i2, j2, c1, c2, h1, h2, rfl⟩ := q
    have a := ih h1
    have b := h2.b h
    exact ⟨by omega, by omega, by omega, fun z => b.2.2.2.2.2.1 (a.2.2.2.1 z), fun z => b.2.2.2.2.2.2 (a.2.2.2.2 z)⟩
def IsMin (S : Int → Prop) (v : Int) : Prop := S v ∧ ∀ c, S c → v ≤ c
theorem IsMin.uniq {S : Int → Prop} {v w : Int} (h : IsMin S v) (q : IsMin S w) : v = w := Int.le_antisymm (h.2 w q.1) (q.2 v h.1)
/-- to take each note alone is a way, too -/
theorem alone_a {d : WD} (h : WB d) (j : Nat) : ∀ k i, i + k = wn d → ∃ c, Pth d i j (wn d) j c ∧ c ≤ 64000 * k
  | 0, i, q => ⟨0, by rw [show wn d = i by omega]; exact Pth.rf, by omega⟩
  | k + 1, i, q => by
    obtain ⟨c, h1, h2⟩ := alone_a h j k (i + 1) (by omega)
    have b := alA_b h (i := i) (by omega)
    exact ⟨_, Pth.cons (Or.inl ⟨by omega, rfl, rfl, rfl⟩) h1, by omega⟩
theorem alone_b {d : WD} (h : WB d) (i : Nat) : ∀ k j, j + k = wm d → ∃ c, Pth d i j i (wm d) c ∧ c ≤ 64000 * k
  | 0, j, q => ⟨0, by rw [show wm d = j by omega]; exact Pth.rf, by omega⟩
  | k + 1, j, q => by
    obtain ⟨c, h1, h2⟩ := alone_b h i k (j + 1) (by omega)
    have b := alB_b h (j := j) (by omega)
    exact ⟨_, Pth.cons (Or.inr (Or.inl ⟨by omega, rfl, rfl, rfl⟩)) h1, by omega⟩
theorem Pth.app {d : WD} {i0 j0 i1 j1 i j : Nat} {c e : Int} (q : Pth d i0 j0 i1 j1 e) (h : Pth d i1 j1 i j c) : Pth d i0 j0 i j (e + c) := by
  obtain ⟨k, h⟩ := h
  induction k generalizing i j c with
  | zero => obtain ⟨rfl, rfl, rfl⟩ := h; rwa [Int.add_zero]
  | succ k ih =>
    obtain ⟨i2, j2, c1, c2, h1, h2, rfl⟩ := h
    have := (ih h1).snoc h2
    rwa [Int.add_assoc] at this
theorem alone {d : WD} (h : WB d) {i j : Nat} (hi : i ≤ wn d) (hj : j ≤ wm d) : ∃ c, Pth d i j (wn d) (wm d) c ∧ c ≤ 64000 * (wn d - i + (wm d - j) : Nat) := by
  obtain ⟨c, h1, h2⟩ := alone_a h j (wn d - i) i (by omega)
  obtain ⟨e, h3, h4⟩ := alone_b h (wn d) (wm d - j) j (by omega)
  exact ⟨c + e, h1.app h3, by omega⟩
