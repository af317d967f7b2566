/-! ===== flows: one way more ===== -/
def uG (g : Nat → Nat → Int) (i j : Nat) (x : Int) (a b : Nat) : Int := if a = i ∧ b = j then g a b + x else g a b
theorem uG_row {g : Nat → Nat → Int} {i j k : Nat} {x : Int} {n : Nat} (hj : j < n) : uS (uG g i j x k) n = uS (g k) n + (if k = i then x else 0) := by
  by_cases e : k = i
  · rw [if_pos e]
    have h : uS (uG g i j x k) n = uS (fun b => if b = j then g k b + x else g k b) n := uS_eq n (fun b _ => by
      unfold uG
      by_cases z : b = j
      · rw [if_pos ⟨e, z⟩, if_pos z]
      · rw [if_neg (fun y => z y.2), if_neg z])
    rw [h, uS_up, if_pos hj]
  · rw [if_neg e]
    have h : uS (uG g i j x k) n = uS (g k) n := uS_eq n (fun b _ => by
      unfold uG
      rw [if_neg (fun y => e y.1)])
    rw [h]; omega
theorem uG_col {g : Nat → Nat → Int} {i j k : Nat} {x : Int} {n : Nat} (hi : i < n) : uS (fun a => uG g i j x a k) n = uS (fun a => g a k) n + (if k = j then x else 0) := by
  by_cases e : k = j
  · rw [if_pos e]
    have h : uS (fun a => uG g i j x a k) n = uS (fun b => if b = i then g b k + x else g b k) n := uS_eq n (fun b _ => by
      unfold uG
      by_cases z : b = i
      · rw [if_pos ⟨z, e⟩, if_pos z]
      · rw [if_neg (fun y => z y.1), if_neg z])
    rw [h, uS_up (f := fun b => g b k), if_pos hi]
  · rw [if_neg e]
    have h : uS (fun a => uG g i j x a k) n = uS (fun a => g a k) n := uS_eq n (fun b _ => by
      unfold uG
      rw [if_neg (fun y => e y.2)])
    rw [h]; omega
/-- the way is walked back to i: what has changed so far -/
def uAg (nx ny : Nat) (g : Nat → Nat → Int) (T : Nat → Nat → Prop) (key : Nat → Int) (w : Int) (last i : Nat) (gc : Nat → Nat → Int) : Prop :=
  (∀ k, k < nx → uS (gc k) ny = uS (g k) ny + (if k = i then w else 0)) ∧ (∀ j, j < ny → uS (fun k => gc k j) nx = uS (fun k => g k j) nx + (if j = last then w else 0)) ∧
  (∀ k j, k < nx → j < ny → 0 ≤ gc k j) ∧ (∀ k j, k < nx → j < ny → key k ≤ key i → g k j ≤ gc k j) ∧ (∀ k j, k < nx → j < ny → 0 < gc k j → 0 < g k j ∨ T k j)
theorem uAg.start {nx ny : Nat} {g : Nat → Nat → Int} {T : Nat → Nat → Prop} {key : Nat → Int} {w : Int} {last i : Nat} (hg : ∀ k j, k < nx → j < ny → 0 ≤ g k j) (hw : 0 ≤ w) (hi : i < nx) (hl : last < ny) (ht : T i last) : uAg nx ny g T key w last i (uG g i last w) := by
  refine ⟨fun k hk => uG_row hl, fun j hj => uG_col hi, fun k j hk hj => ?_, fun k j hk hj _ => ?_, fun k j hk hj z => ?_⟩
  · have := hg k j hk hj
    unfold uG; split <;> omega
  · unfold uG; split <;> omega
  · unfold uG at z
    by_cases e : k = i ∧ j = last
    · rw [e.1, e.2]; exact Or.inr ht
    · rw [if_neg e] at z; exact Or.inl z
theorem uAg.step {nx ny : Nat} {g gc : Nat → Nat → Int} {T : Nat → Nat → Prop} {key : Nat → Int} {w : Int} {last i i' b : Nat} (h : uAg nx ny g T key w last i gc) (hw : 0 ≤ w) (hi : i < nx) (hb : b < ny) (hi' : i' < nx) (hk : key i' < key i) (hgb : w ≤ g i b) (ht : T i' b) : uAg nx ny g T key w last i' (uG (uG gc i b (-w)) i' b w) := by
  obtain ⟨h1, h2, h3, h4, h5⟩ := h
  have ne : i' ≠ i := fun e => by rw [e] at hk; omega
  have hib := h4 i b hi hb (Int.le_refl _)
  refine ⟨fun k hk' => ?_, fun j hj => ?_, fun k j hk' hj => ?_, fun k j hk' hj z => ?_, fun k j hk' hj z => ?_⟩
  · rw [uG_row hb, uG_row hb, h1 k hk']
    by_cases e : k = i
    · rw [if_pos e, if_pos e]; omega
    · rw [if_neg e, if_neg e]; omega
  · rw [uG_col hi', uG_col hi, h2 j hj]
    by_cases e : j = b
    · rw [if_pos e, if_pos e]; omega
    · rw [if_neg e, if_neg e]; omega
  · have := h3 k j hk' hj
    unfold uG
    by_cases e : k = i' ∧ j = b
    · rw [if_pos e, if_neg (fun y => ne (e.1.symm.trans y.1))]; omega
    · rw [if_neg e]
      by_cases y : k = i ∧ j = b
      · rw [if_pos y, y.1, y.2]; omega
      · rw [if_neg y]; exact this
  · have kn : k ≠ i := fun e => by rw [e] at z; omega
    have := h4 k j hk' hj (by omega)
    unfold uG
    rw [if_neg (fun y : k = i ∧ j = b => kn y.1)]
    split <;> omega
  · unfold uG at z
    by_cases e : k = i' ∧ j = b
    · rw [e.1, e.2]; exact Or.inr ht
    · rw [if_neg e] at z
      refine h5 k j hk' hj ?_
      split at z <;> omega
theorem uCt_tight {nx ny : Nat} {C F : Nat → Nat → Int} {u v : Nat → Int} (f1 : ∀ i j, i < nx → j < ny → 0 ≤ F i j) (h2 : ∀ i j, i < nx → j < ny → 0 < F i j → C i j = v j - u i) : uCt nx ny C F = uS (fun j => v j * uS (fun i => F i j) nx) ny - uS (fun i => u i * uS (F i) ny) nx := by
  have eF : uCt nx ny C F = uS (fun i => uS (fun j => (v j - u i) * F i j) ny) nx := uS_eq nx (fun i hi => uS_eq ny (fun j hj => by
    by_cases z : 0 < F i j
    · rw [h2 i j hi hj z]
    · have := f1 i j hi hj
      rw [show F i j = 0 by omega, Int.mul_zero, Int.mul_zero]))
  have e1 : uS (fun i => uS (fun j => (v j - u i) * F i j) ny) nx = uS (fun i => uS (fun j => v j * F i j) ny - u i * uS (F i) ny) nx := uS_eq nx (fun i _ => by
    rw [← uS_mul, ← uS_sub]
    exact uS_eq ny (fun j _ => Int.sub_mul _ _ _))
  have e2 : uS (fun j => uS (fun i => v j * F i j) nx) ny = uS (fun j => v j * uS (fun i => F i j) nx) ny := uS_eq ny (fun j _ => uS_mul nx)
  rw [eF, e1, uS_sub, uS_comm (f := fun i j => v j * F i j), e2]
theorem uCt_aug {nx ny : Nat} {C F G : Nat → Nat → Int} {u v : Nat → Int} {s t : Nat} {w : Int} (hs : s < nx) (ht : t < ny) (f1 : ∀ i j, i < nx → j < ny → 0 ≤ F i j) (f2 : ∀ i j, i < nx → j < ny → 0 < F i j → C i j = v j - u i)
    (g1 : ∀ i j, i < nx → j < ny → 0 ≤ G i j) (g2 : ∀ i j, i < nx → j < ny → 0 < G i j → C i j = v j - u i) (hr : ∀ k, k < nx → uS (G k) ny = uS (F k) ny + (if k = s then w else 0)) (hc : ∀ j, j < ny → uS (fun k => G k j) nx = uS (fun k => F k j) nx + (if j = t then w else 0)) :
    uCt nx ny C G = uCt nx ny C F + w * (v t - u s) := by
  rw [uCt_tight f1 f2, uCt_tight g1 g2]
  have e1 : uS (fun j => v j * uS (fun i => G i j) nx) ny = uS (fun j => v j * uS (fun i => F i j) nx) ny + v t * w := by
    have h : uS (fun j => v j * uS (fun i => G i j) nx) ny = uS (fun j => if j = t then v j * uS (fun i => F i j) nx + v t * w else v j * uS (fun i => F i j) nx) ny := uS_eq ny (fun j hj => by
      rw [hc j hj]
      by_cases z : j = t
      · rw [if_pos z, if_pos z, Int.mul_add, z]
      · rw [if_neg z, if_neg z, Int.add_zero])
    rw [h, uS_up (f := fun j => v j * uS (fun i => F i j) nx), if_pos ht]
  have e2 : uS (fun i => u i * uS (G i) ny) nx = uS (fun i => u i * uS (F i) ny) nx + u s * w := by
    have h : uS (fun i => u i * uS (G i) ny) nx = uS (fun i => if i = s then u i * uS (F i) ny + u s * w else u i * uS (F i) ny) nx := uS_eq nx (fun i hi => by
      rw [hr i hi]
      by_cases z : i = s
      · rw [if_pos z, if_pos z, Int.mul_add, z]
      · rw [if_neg z, if_neg z, Int.add_zero])
    rw [h, uS_up (f := fun i => u i * uS (F i) ny), if_pos hs]
  rw [e1, e2, Int.mul_sub, Int.mul_comm w (v t), Int.mul_comm w (u s)]
  omega
theorem uS_pos {f : Nat → Int} : ∀ n, 0 < uS f n → ∃ k, k < n ∧ 0 < f k
  | 0, h => absurd h (by show ¬ (0 : Int) < 0; omega)
  | n + 1, h => by
    have h : 0 < uS f n + f n := h
    by_cases z : 0 < f n
    · exact ⟨n, by omega, z⟩
    · obtain ⟨k, h1, h2⟩ := uS_pos (f := f) n (by omega)
      exact ⟨k, by omega, h2⟩
theorem uCt_b {nx ny : Nat} {C F : Nat → Nat → Int} {b : Int} (f1 : ∀ i j, i < nx → j < ny → 0 ≤ F i j) (h2 : ∀ i j, i < nx → j < ny → 0 ≤ C i j ∧ C i j ≤ b) : 0 ≤ uCt nx ny C F ∧ uCt nx ny C F ≤ b * uS (fun i => uS (F i) ny) nx := by
  refine ⟨uS_nn nx (fun i hi => uS_nn ny (fun j hj => Int.mul_nonneg (h2 i j hi hj).1 (f1 i j hi hj))), ?_⟩
  rw [← uS_mul]
  refine uS_le nx (fun i hi => ?_)
  rw [← uS_mul]
  exact uS_le ny (fun j hj => Int.mul_le_mul_of_nonneg_right (h2 i j hi hj).2 (f1 i j hi hj))
/-! ===== the flow with its prices ===== -/
def uFi (M N : Nat) (p q A B : Nat → Int) (C g : Nat → Nat → Int) (u v : Nat → Int) (D : Int) : Prop := uCx M N p q C g (fun i => A i - uS (g i) N) u v ∧ (∀ i j, i < M → j < N → 0 ≤ g i j) ∧ (∀ i, i < M → uS (g i) N ≤ A i) ∧ (∀ j, j < N → uS (fun i => g i j) M ≤ B j) ∧ (∀ j, j < N → uS (fun i => g i j) M < B j → D ≤ v j) ∧ ∀ j, j < N → 0 < uS (fun i => g i j) M → v j ≤ D
theorem uFi.best {M N : Nat} {p q A B : Nat → Int} {C g : Nat → Nat → Int} {u v : Nat → Int} {D U : Int} (h : uFi M N p q A B C g u v D) (hA : ∀ i, i < M → (0 < A i ↔ 0 ≤ p i)) (hB : ∀ j, j < N → (0 < B j ↔ 0 ≤ q j)) (hU : uS (fun i => uS (g i) N) M = U) : uBest M N A B C U (uCt M N C g) := by
  obtain ⟨⟨x1, x2, x3, x4, x5, x6, x7, x8⟩, h2, h3, h4, h5, h6⟩ := h
  refine uBest.cert (u := u) (v := v) (E := 0) (D := D) ⟨h2, h3, h4, hU⟩ (fun i j hi hj a b => x6 i j hi hj ((hA i hi).mp a) ((hB j hj).mp b)) (fun i j hi hj z => (x7 i j hi hj z).1.symm) (fun i hi _ z => ?_) (fun i hi _ => (x4 i hi).1) (fun j hj _ z => h5 j hj z) h6
  have := x8 i hi (by show 0 < A i - uS (g i) N; omega)
  omega
def umin (a b : Int) : Int := if a ≤ b then a else b
theorem umin_s (a b : Int) : umin a b ≤ a ∧ umin a b ≤ b ∧ (umin a b = a ∨ umin a b = b) := by unfold umin; split <;> omega
/-- the edges that are tight behind the search, near enough -/
def uTi (p q : Nat → Int) (C : Nat → Nat → Int) (u v dA dB : Nat → Int) (ρ : Int) (k j : Nat) : Prop := 0 ≤ p k ∧ 0 ≤ q j ∧ dA k + C k j = dB j ∧ dA k - u k ≤ ρ ∧ dB j - v j ≤ ρ
theorem uFi.aug {M N : Nat} {p q A B : Nat → Int} {C g gc : Nat → Nat → Int} {u v dA dB key : Nat → Int} {D w : Int} {last src : Nat} (h : uFi M N p q A B C g u v D) (hA : ∀ i, i < M → (0 < A i ↔ 0 ≤ p i)) (hB : ∀ j, j < N → (0 < B j ↔ 0 ≤ q j))
    (a1 : ∀ i, i < M → 0 ≤ p i → u i ≤ dA i ∧ dA i ≤ 2000000) (a2 : ∀ j, j < N → 0 ≤ q j → v j ≤ dB j ∧ dB j ≤ 2000000) (a3 : ∀ i j, i < M → j < N → 0 ≤ p i → 0 ≤ q j → dB j ≤ dA i + C i j) (a4 : ∀ i j, i < M → j < N → 0 < g i j → dA i ≤ dB j - C i j) (a5 : ∀ i, i < M → 0 < A i - uS (g i) N → dA i = 0)
    (hl : last < N) (b1 : ∀ j, j < N → uS (fun i => g i j) M < B j → dB last ≤ dB j) (hs : src < M) (w0 : 0 < w) (w1 : w ≤ A src - uS (g src) N) (w2 : w ≤ B last - uS (fun i => g i last) M) (hg : uAg M N g (uTi p q C u v dA dB (dB last - v last)) key w last src gc) :
    (∃ u' v', uFi M N p q A B C gc u' v' (dB last)) ∧ uCt M N C gc = uCt M N C g + w * dB last := by
  obtain ⟨⟨x1, x2, x3, x4, x5, x6, x7, x8⟩, h2, h3, h4, h5, h6⟩ := h
  obtain ⟨g1, g2, g3, -, g5⟩ := hg
  have lq : 0 ≤ q last := (hB last hl).mp (by have := uS_nn (f := fun i => g i last) M (fun i hi => h2 i last hi hl); omega)
  have lD := h5 last hl (by omega)
  have la2 := a2 last hl lq
  have sp : 0 ≤ p src := (x8 src hs (by show 0 < A src - uS (g src) N; omega)).2
  have su := (x8 src hs (by show 0 < A src - uS (g src) N; omega)).1
  have sd := a5 src hs (by omega)
  obtain ⟨u', eu⟩ : ∃ u' : Nat → Int, ∀ i, u' i = if p i < 0 then u i else u i + umin (dA i - u i) (dB last - D) := ⟨_, fun _ => rfl⟩
  obtain ⟨v', ev⟩ : ∃ v' : Nat → Int, ∀ j, v' j = if q j < 0 then v j else v j + umin (dB j - v j) (dB last - D) := ⟨_, fun _ => rfl⟩
  have eu1 : ∀ i, i < M → 0 ≤ p i → u i ≤ u' i ∧ u' i ≤ dA i ∧ u' i ≤ u i + (dB last - D) ∧ (u' i = dA i ∨ u' i = u i + (dB last - D)) := fun i hi hp => by
    have := eu i
    rw [if_neg (by omega)] at this
    have := umin_s (dA i - u i) (dB last - D)
    have := a1 i hi hp
    omega
  have ev1 : ∀ j, j < N → 0 ≤ q j → v j ≤ v' j ∧ v' j ≤ dB j ∧ v' j ≤ v j + (dB last - D) ∧ (v' j = dB j ∨ v' j = v j + (dB last - D)) := fun j hj hq => by
    have := ev j
    rw [if_neg (by omega)] at this
    have := umin_s (dB j - v j) (dB last - D)
    have := a2 j hj hq
    omega
  have old : ∀ i j, i < M → j < N → 0 < g i j → C i j = v' j - u' i := fun i j hi hj z => by
    have t := x7 i j hi hj z
    have c1 := a3 i j hi hj t.2.1 t.2.2
    have c2 := a4 i j hi hj z
    have := eu1 i hi t.2.1
    have := ev1 j hj t.2.2
    omega
  have neu : ∀ i j, i < M → j < N → uTi p q C u v dA dB (dB last - v last) i j → C i j = v' j - u' i := fun i j hi hj ⟨t1, t2, t3, t4, t5⟩ => by
    have := eu1 i hi t1
    have := ev1 j hj t2
    omega
  have fin : ∀ i j, i < M → j < N → 0 < gc i j → C i j = v' j - u' i ∧ 0 ≤ p i ∧ 0 ≤ q j := fun i j hi hj z => by
    rcases g5 i j hi hj z with y | y
    · exact ⟨old i j hi hj y, (x7 i j hi hj y).2⟩
    · exact ⟨neu i j hi hj y, y.1, y.2.1⟩
  have evl := ev1 last hl lq
  have eus := eu1 src hs sp
  refine ⟨⟨u', v', ⟨x1, x2, x3, fun i hi => ?_, fun j hj => ?_, fun i j hi hj hp hq => ?_, fun i j hi hj z => ?_, fun i hi z => ?_⟩, g3, fun i hi => ?_, fun j hj => ?_, fun j hj z => ?_, fun j hj z => ?_⟩, ?_⟩
  · have := x4 i hi
    by_cases e : p i < 0
    · rw [eu i, if_pos e]; exact this
    · have := eu1 i hi (by omega); have := a1 i hi (by omega); omega
  · have := x5 j hj
    by_cases e : q j < 0
    · rw [ev j, if_pos e]; exact this
    · have := ev1 j hj (by omega); have := a2 j hj (by omega); omega
  · have := x6 i j hi hj hp hq
    have := x3 i j hi hj
    have := a3 i j hi hj hp hq
    have := eu1 i hi hp
    have := ev1 j hj hq
    omega
  · have := fin i j hi hj z
    exact ⟨by omega, this.2⟩
  · have z : 0 < A i - uS (gc i) N := z
    rw [g1 i hi] at z
    have z' : 0 < A i - uS (g i) N := by split at z <;> omega
    have y8 := x8 i hi z'
    have y5 := a5 i hi z'
    have y1 := eu1 i hi y8.2
    exact ⟨by omega, y8.2⟩
  · rw [g1 i hi]
    have := h3 i hi
    by_cases e : i = src
    · rw [if_pos e, e]; omega
    · rw [if_neg e]; omega
  · rw [g2 j hj]
    have := h4 j hj
    by_cases e : j = last
    · rw [if_pos e, e]; omega
    · rw [if_neg e]; omega
  · rw [g2 j hj] at z
    have z' : uS (fun i => g i j) M < B j := by split at z <;> omega
    have q0 : 0 ≤ q j := (hB j hj).mp (by have := uS_nn (f := fun i => g i j) M (fun i hi => h2 i j hi hj); omega)
    have := b1 j hj z'
    have := h5 j hj z'
    have := ev1 j hj q0
    omega
  · by_cases e : j = last
    · rw [e]; omega
    · rw [g2 j hj, if_neg e, Int.add_zero] at z
      have := h6 j hj z
      obtain ⟨i, hi, z⟩ := uS_pos M z
      have t := x7 i j hi hj z
      have := ev1 j hj t.2.2
      omega
  · rw [uCt_aug (u := u') (v := v') hs hl h2 old g3 (fun i j hi hj z => (fin i j hi hj z).1) g1 g2]
    have e1 : v' last - u' src = dB last := by omega
    rw [e1]
