/-! ===== sums, flows, the least cost of carrying ===== -/
def uS (f : Nat → Int) : Nat → Int
  | 0 => 0
  | n + 1 => uS f n + f n
theorem uS_eq {f g : Nat → Int} : ∀ n, (∀ k, k < n → f k = g k) → uS f n = uS g n
  | 0, _ => rfl
  | n + 1, h => by
    show uS f n + f n = uS g n + g n
    rw [uS_eq n (fun k hk => h k (by omega)), h n (by omega)]
theorem uS_le {f g : Nat → Int} : ∀ n, (∀ k, k < n → f k ≤ g k) → uS f n ≤ uS g n
  | 0, _ => Int.le_refl _
  | n + 1, h => by
    show uS f n + f n ≤ uS g n + g n
    have := uS_le n (fun k hk => h k (by omega))
    have := h n (by omega)
    omega
theorem uS_add {f g : Nat → Int} : ∀ n, uS (fun k => f k + g k) n = uS f n + uS g n
  | 0 => rfl
  | n + 1 => by
    show uS (fun k => f k + g k) n + (f n + g n) = uS f n + f n + (uS g n + g n)
    rw [uS_add n]; omega
theorem uS_sub {f g : Nat → Int} : ∀ n, uS (fun k => f k - g k) n = uS f n - uS g n
  | 0 => rfl
  | n + 1 => by
    show uS (fun k => f k - g k) n + (f n - g n) = uS f n + f n - (uS g n + g n)
    rw [uS_sub n]; omega
theorem uS_mul {f : Nat → Int} {a : Int} : ∀ n, uS (fun k => a * f k) n = a * uS f n
  | 0 => by show (0 : Int) = a * 0; omega
  | n + 1 => by
    show uS (fun k => a * f k) n + a * f n = a * (uS f n + f n)
    rw [uS_mul n, Int.mul_add]
theorem uS_zero : ∀ n, uS (fun _ => 0) n = 0
  | 0 => rfl
  | n + 1 => by show uS (fun _ => 0) n + 0 = 0; rw [uS_zero n]; rfl
theorem uS_nn {f : Nat → Int} (n : Nat) (h : ∀ k, k < n → 0 ≤ f k) : 0 ≤ uS f n := by
  have := uS_le (f := fun _ => 0) (g := f) n h
  rw [uS_zero] at this
  exact this
theorem uS_ge {f : Nat → Int} : ∀ n k, (∀ k, k < n → 0 ≤ f k) → k < n → f k ≤ uS f n
  | 0, k, _, z => by omega
  | n + 1, k, h, z => by
    show f k ≤ uS f n + f n
    by_cases e : k = n
    · have := uS_nn n (fun k hk => h k (by omega))
      rw [e]; omega
    · have := uS_ge n k (fun k hk => h k (by omega)) (by omega)
      have := h n (by omega)
      omega
theorem uS_comm {f : Nat → Nat → Int} (m : Nat) : ∀ n, uS (fun i => uS (f i) m) n = uS (fun j => uS (fun i => f i j) n) m
  | 0 => (uS_zero m).symm
  | n + 1 => by
    show uS (fun i => uS (f i) m) n + uS (f n) m = uS (fun j => uS (fun i => f i j) n + f n j) m
    rw [uS_comm m n, uS_add]
/-- one place more -/
theorem uS_up {f : Nat → Int} {a : Int} {p : Nat} : ∀ n, uS (fun k => if k = p then f k + a else f k) n = uS f n + (if p < n then a else 0)
  | 0 => by show (0 : Int) = 0 + _; rw [if_neg (by omega)]; rfl
  | n + 1 => by
    show uS (fun k => if k = p then f k + a else f k) n + (if n = p then f n + a else f n) = uS f n + f n + _
    rw [uS_up n]
    by_cases e : n = p
    · rw [if_pos e, if_neg (by omega), if_pos (by omega)]; omega
    · rw [if_neg e]
      by_cases z : p < n
      · rw [if_pos z, if_pos (by omega)]; omega
      · rw [if_neg z, if_neg (by omega)]; omega
def uFs (nx ny : Nat) (A B : Nat → Int) (U : Int) (F : Nat → Nat → Int) : Prop := (∀ i j, i < nx → j < ny → 0 ≤ F i j) ∧ (∀ i, i < nx → uS (F i) ny ≤ A i) ∧ (∀ j, j < ny → uS (fun i => F i j) nx ≤ B j) ∧ uS (fun i => uS (F i) ny) nx = U
def uCt (nx ny : Nat) (C F : Nat → Nat → Int) : Int := uS (fun i => uS (fun j => C i j * F i j) ny) nx
def uBest (nx ny : Nat) (A B : Nat → Int) (C : Nat → Nat → Int) (U V : Int) : Prop := (∃ F, uFs nx ny A B U F ∧ uCt nx ny C F = V) ∧ ∀ F, uFs nx ny A B U F → V ≤ uCt nx ny C F
theorem uBest.uniq {nx ny : Nat} {A B : Nat → Int} {C : Nat → Nat → Int} {U V W : Int} (h : uBest nx ny A B C U V) (q : uBest nx ny A B C U W) : V = W := by
  obtain ⟨⟨F, f1, f2⟩, f3⟩ := h
  obtain ⟨⟨G, g1, g2⟩, g3⟩ := q
  have := f3 G g1
  have := g3 F f1
  omega
theorem uBest.swap {nx ny : Nat} {A B : Nat → Int} {C : Nat → Nat → Int} {U V : Int} (h : uBest ny nx B A (fun j i => C i j) U V) : uBest nx ny A B C U V := by
  have c : ∀ F : Nat → Nat → Int, uCt nx ny C F = uCt ny nx (fun j i => C i j) (fun j i => F i j) := fun F => uS_comm (f := fun i j => C i j * F i j) ny nx
  obtain ⟨⟨F, ⟨f1, f2, f3, f4⟩, f5⟩, f6⟩ := h
  refine ⟨⟨fun i j => F j i, ⟨fun i j hi hj => f1 j i hj hi, fun i hi => f3 i hi, fun j hj => f2 j hj, ?_⟩, ?_⟩, fun G g => ?_⟩
  · rw [uS_comm]; exact f4
  · rw [c]; exact f5
  · obtain ⟨g1, g2, g3, g4⟩ := g
    rw [c]
    exact f6 (fun j i => G i j) ⟨fun j i hj hi => g1 i j hi hj, fun j hj => g3 j hj, fun i hi => g2 i hi, by rw [uS_comm]; exact g4⟩
theorem mul_nn {a b : Int} (h : 0 ≤ a ∧ 0 ≤ b ∨ a ≤ 0 ∧ b ≤ 0) : 0 ≤ a * b := by
  rcases h with ⟨h1, h2⟩ | ⟨h1, h2⟩
  · exact Int.mul_nonneg h1 h2
  · have := Int.mul_nonneg (a := -a) (b := -b) (by omega) (by omega)
    rw [Int.neg_mul_neg] at this
    exact this
theorem uBest.cert {nx ny : Nat} {A B : Nat → Int} {C : Nat → Nat → Int} {U : Int} {F : Nat → Nat → Int} {u v : Nat → Int} {E D : Int} (hF : uFs nx ny A B U F)
    (h1 : ∀ i j, i < nx → j < ny → 0 < A i → 0 < B j → v j - u i ≤ C i j) (h2 : ∀ i j, i < nx → j < ny → 0 < F i j → C i j = v j - u i)
    (h3 : ∀ i, i < nx → 0 < A i → uS (F i) ny < A i → u i ≤ E) (h4 : ∀ i, i < nx → 0 < uS (F i) ny → E ≤ u i)
    (h5 : ∀ j, j < ny → 0 < B j → uS (fun i => F i j) nx < B j → D ≤ v j) (h6 : ∀ j, j < ny → 0 < uS (fun i => F i j) nx → v j ≤ D) : uBest nx ny A B C U (uCt nx ny C F) := by
  refine ⟨⟨F, hF, rfl⟩, fun G hG => ?_⟩
  obtain ⟨f1, f2, f3, f4⟩ := hF
  obtain ⟨g1, g2, g3, g4⟩ := hG
  have form : ∀ H : Nat → Nat → Int, uS (fun i => uS (fun j => (v j - u i) * H i j) ny) nx = uS (fun j => v j * uS (fun i => H i j) nx) ny - uS (fun i => u i * uS (H i) ny) nx := fun H => by
    have e1 : uS (fun i => uS (fun j => (v j - u i) * H i j) ny) nx = uS (fun i => uS (fun j => v j * H i j) ny - u i * uS (H i) ny) nx := uS_eq nx (fun i _ => by
      rw [← uS_mul, ← uS_sub]
      exact uS_eq ny (fun j _ => Int.sub_mul _ _ _))
    rw [e1, uS_sub, uS_comm (f := fun i j => v j * H i j)]
    have e2 : uS (fun j => uS (fun i => v j * H i j) nx) ny = uS (fun j => v j * uS (fun i => H i j) nx) ny := uS_eq ny (fun j _ => uS_mul nx)
    rw [e2]
  have eF : uCt nx ny C F = uS (fun i => uS (fun j => (v j - u i) * F i j) ny) nx := uS_eq nx (fun i hi => uS_eq ny (fun j hj => by
    by_cases z : 0 < F i j
    · rw [h2 i j hi hj z]
    · have := f1 i j hi hj
      rw [show F i j = 0 by omega, Int.mul_zero, Int.mul_zero]))
  have eG : uS (fun i => uS (fun j => (v j - u i) * G i j) ny) nx ≤ uCt nx ny C G := uS_le nx (fun i hi => uS_le ny (fun j hj => by
    have g0 := g1 i j hi hj
    by_cases z : 0 < G i j
    · have a1 := uS_ge ny j (fun k hk => g1 i k hi hk) hj
      have a2 := g2 i hi
      have b1 := uS_ge (f := fun i => G i j) nx i (fun k hk => g1 k j hk hj) hi
      have b2 := g3 j hj
      have b1 : G i j ≤ uS (fun i => G i j) nx := b1
      exact Int.mul_le_mul_of_nonneg_right (h1 i j hi hj (by omega) (by omega)) g0
    · rw [show G i j = 0 by omega, Int.mul_zero, Int.mul_zero]; exact Int.le_refl _))
  have form2 := form F
  have form3 := form G
  have tot : uS (fun j => uS (fun i => F i j) nx) ny = U := by rw [← uS_comm]; exact f4
  have totG : uS (fun j => uS (fun i => G i j) nx) ny = U := by rw [← uS_comm]; exact g4
  -- the takers' side
  have sj : 0 ≤ uS (fun j => (v j - D) * (uS (fun i => G i j) nx - uS (fun i => F i j) nx)) ny := uS_nn ny (fun j hj => by
    have c1 := uS_nn (f := fun i => F i j) nx (fun i hi => f1 i j hi hj)
    have c2 := uS_nn (f := fun i => G i j) nx (fun i hi => g1 i j hi hj)
    have c3 := f3 j hj
    have c4 := g3 j hj
    apply mul_nn
    by_cases b0 : 0 < B j
    · by_cases z : uS (fun i => F i j) nx < B j
      · by_cases y : 0 < uS (fun i => F i j) nx
        · have := h5 j hj b0 z
          have := h6 j hj y
          by_cases x : uS (fun i => F i j) nx ≤ uS (fun i => G i j) nx
          · exact Or.inl ⟨by omega, by omega⟩
          · exact Or.inr ⟨by omega, by omega⟩
        · have := h5 j hj b0 z
          exact Or.inl ⟨by omega, by omega⟩
      · have := h6 j hj (by omega)
        exact Or.inr ⟨by omega, by omega⟩
    · by_cases x : D ≤ v j
      · exact Or.inl ⟨by omega, by omega⟩
      · exact Or.inr ⟨by omega, by omega⟩)
  have si : 0 ≤ uS (fun i => (E - u i) * (uS (G i) ny - uS (F i) ny)) nx := uS_nn nx (fun i hi => by
    have c1 := uS_nn ny (fun j hj => f1 i j hi hj)
    have c2 := uS_nn ny (fun j hj => g1 i j hi hj)
    have c3 := f2 i hi
    have c4 := g2 i hi
    apply mul_nn
    by_cases b0 : 0 < A i
    · by_cases z : uS (F i) ny < A i
      · by_cases y : 0 < uS (F i) ny
        · have := h3 i hi b0 z
          have := h4 i hi y
          by_cases x : uS (F i) ny ≤ uS (G i) ny
          · exact Or.inl ⟨by omega, by omega⟩
          · exact Or.inr ⟨by omega, by omega⟩
        · have := h3 i hi b0 z
          exact Or.inl ⟨by omega, by omega⟩
      · have := h4 i hi (by omega)
        exact Or.inr ⟨by omega, by omega⟩
    · by_cases x : u i ≤ E
      · exact Or.inl ⟨by omega, by omega⟩
      · exact Or.inr ⟨by omega, by omega⟩)
  have ej : uS (fun j => (v j - D) * (uS (fun i => G i j) nx - uS (fun i => F i j) nx)) ny = uS (fun j => v j * uS (fun i => G i j) nx) ny - uS (fun j => v j * uS (fun i => F i j) nx) ny - D * (U - U) := by
    have e : uS (fun j => (v j - D) * (uS (fun i => G i j) nx - uS (fun i => F i j) nx)) ny = uS (fun j => (v j * uS (fun i => G i j) nx - v j * uS (fun i => F i j) nx) - D * (uS (fun i => G i j) nx - uS (fun i => F i j) nx)) ny := uS_eq ny (fun j _ => by rw [Int.sub_mul, Int.mul_sub])
    rw [e, uS_sub, uS_sub, uS_mul, uS_sub, tot, totG]
  have ei : uS (fun i => (E - u i) * (uS (G i) ny - uS (F i) ny)) nx = E * (U - U) - (uS (fun i => u i * uS (G i) ny) nx - uS (fun i => u i * uS (F i) ny) nx) := by
    have e : uS (fun i => (E - u i) * (uS (G i) ny - uS (F i) ny)) nx = uS (fun i => E * (uS (G i) ny - uS (F i) ny) - (u i * uS (G i) ny - u i * uS (F i) ny)) nx := uS_eq nx (fun i _ => by rw [Int.sub_mul, Int.mul_sub (u i)])
    rw [e, uS_sub, uS_sub, uS_mul, uS_sub, f4, g4]
  rw [Int.sub_self, Int.mul_zero] at ej ei
  rw [eF]
  omega
