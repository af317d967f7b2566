/-! ===== the model's reach: least ways by steps ===== -/
def udA (σ : SG) (i : Nat) : Int := (σ.2.1 21 i).toInt
def udB (σ : SG) (j : Nat) : Int := (σ.2.1 21 (24 + j)).toInt
def ufA (σ : SG) (i : Nat) : Int := (σ.1 22 i).toInt
def ufB (σ : SG) (j : Nat) : Int := (σ.1 22 (24 + j)).toInt
def uPhi (M N : Nat) (σ : SG) : Int := uS (udA σ) M + uS (udB σ) N
/-- the flow before, and its prices: g goes, la is left at the givers -/
def uCx (M N : Nat) (p q : Nat → Int) (C g : Nat → Nat → Int) (la u v : Nat → Int) : Prop := M ≤ 24 ∧ N ≤ 24 ∧ (∀ i j, i < M → j < N → 0 ≤ C i j ∧ C i j ≤ 2000000) ∧ (∀ i, i < M → 0 ≤ u i ∧ u i ≤ 2000000) ∧ (∀ j, j < N → 0 ≤ v j ∧ v j ≤ 2000000) ∧ (∀ i j, i < M → j < N → 0 ≤ p i → 0 ≤ q j → v j - u i ≤ C i j) ∧ (∀ i j, i < M → j < N → 0 < g i j → v j - u i = C i j ∧ 0 ≤ p i ∧ 0 ≤ q j) ∧ (∀ i, i < M → 0 < la i → u i = 0 ∧ 0 ≤ p i)
def uRI (M N : Nat) (p q : Nat → Int) (C g : Nat → Nat → Int) (la u v ka kb : Nat → Int) (σ : SG) : Prop :=
  (∀ i, i < M → udA σ i = 2305843009213693951 ∨ (0 ≤ p i ∧ u i ≤ udA σ i ∧ udA σ i < 2305843009213693951 ∧ (udA σ i - u i) * 110680464442257309649 - 110680464442257309648 ≤ ka i ∧ ka i ≤ (udA σ i - u i) * 110680464442257309649 - uPhi M N σ)) ∧
  (∀ j, j < N → udB σ j = 2305843009213693951 ∨ (0 ≤ q j ∧ v j ≤ udB σ j ∧ udB σ j < 2305843009213693951 ∧ (udB σ j - v j) * 110680464442257309649 - 110680464442257309648 ≤ kb j ∧ kb j ≤ (udB σ j - v j) * 110680464442257309649 - uPhi M N σ)) ∧
  (∀ i, i < M → 0 < la i → udA σ i = 0) ∧
  (∀ i, i < M → (ufA σ i = -1 ∧ (udA σ i = 2305843009213693951 ∨ (udA σ i = 0 ∧ 0 < la i))) ∨ ∃ j : Nat, j < N ∧ ufA σ i = j ∧ 0 < g i j ∧ udB σ j < 2305843009213693951 ∧ udB σ j - C i j ≤ udA σ i ∧ udA σ i < 2305843009213693951 ∧ kb j < ka i) ∧
  (∀ j, j < N → (ufB σ j = -1 ∧ udB σ j = 2305843009213693951) ∨ ∃ i : Nat, i < M ∧ ufB σ j = i ∧ 0 ≤ p i ∧ 0 ≤ q j ∧ udA σ i < 2305843009213693951 ∧ udA σ i + C i j ≤ udB σ j ∧ udB σ j < 2305843009213693951 ∧ ka i < kb j)
theorem uRI.nn {M N : Nat} {p q : Nat → Int} {C g : Nat → Nat → Int} {la u v ka kb : Nat → Int} {σ : SG} (hX : uCx M N p q C g la u v) (h : uRI M N p q C g la u v ka kb σ) : (∀ i, i < M → 0 ≤ udA σ i ∧ udA σ i ≤ 2305843009213693951) ∧ (∀ j, j < N → 0 ≤ udB σ j ∧ udB σ j ≤ 2305843009213693951) ∧ 0 ≤ uPhi M N σ ∧ uPhi M N σ ≤ 110680464442257309648 := by
  obtain ⟨x1, x2, x3, x4, x5, x6, x7, x8⟩ := hX
  obtain ⟨h1, h2, -⟩ := h
  have a : ∀ i, i < M → 0 ≤ udA σ i ∧ udA σ i ≤ 2305843009213693951 := fun i hi => by
    rcases h1 i hi with z | z
    · omega
    · have := x4 i hi; omega
  have b : ∀ j, j < N → 0 ≤ udB σ j ∧ udB σ j ≤ 2305843009213693951 := fun j hj => by
    rcases h2 j hj with z | z
    · omega
    · have := x5 j hj; omega
  refine ⟨a, b, ?_, ?_⟩
  · have s1 := uS_nn M (fun i hi => (a i hi).1)
    have s2 := uS_nn N (fun j hj => (b j hj).1)
    unfold uPhi; omega
  · have bd : ∀ (f : Nat → Int) (n : Nat), n ≤ 24 → (∀ k, k < n → f k ≤ 2305843009213693951) → uS f n ≤ 2305843009213693951 * n := by
      intro f n
      induction n with
      | zero => intro _ _; show (0 : Int) ≤ _; omega
      | succ n ih =>
        intro hn hk
        have := ih (by omega) (fun k hk' => hk k (by omega))
        have := hk n (by omega)
        show uS f n + f n ≤ _
        omega
    have s1 := bd (udA σ) M x1 (fun i hi => (a i hi).2)
    have s2 := bd (udB σ) N x2 (fun j hj => (b j hj).2)
    unfold uPhi; omega
theorem uS_set {f g : Nat → Int} {p : Nat} {x : Int} (h : ∀ k, g k = if k = p then x else f k) : ∀ n, p < n → uS g n = uS f n - f p + x := fun n hn => by
  have e : uS g n = uS (fun k => if k = p then f k + (x - f p) else f k) n := uS_eq n (fun k _ => by
    rw [h k]
    by_cases z : k = p
    · rw [if_pos z, if_pos z, z]; omega
    · rw [if_neg z, if_neg z])
  rw [e, uS_up, if_pos hn]; omega
def frR (σ σ' : SG) : Prop := (∀ k i, k ≠ 22 → σ'.1 k i = σ.1 k i) ∧ (∀ k i, k ≠ 21 → σ'.2.1 k i = σ.2.1 k i) ∧ σ'.2.2 = σ.2.2
theorem frR.rf {σ : SG} : frR σ σ := ⟨fun _ _ _ => rfl, fun _ _ _ => rfl, rfl⟩
theorem frR.tr {σ σ1 σ2 : SG} (h : frR σ σ1) (q : frR σ1 σ2) : frR σ σ2 := ⟨fun k i z => (q.1 k i z).trans (h.1 k i z), fun k i z => (q.2.1 k i z).trans (h.2.1 k i z), q.2.2.trans h.2.2⟩
theorem frR.C {σ σ' : SG} (h : frR σ σ') : frC σ σ' := ⟨fun k i z => h.1 k i (by omega), fun k i z => h.2.1 k i (by omega), h.2.2⟩
/-- a taker's reach falls -/
theorem uRI.relB {M N : Nat} {p q : Nat → Int} {C g : Nat → Nat → Int} {la u v ka kb : Nat → Int} {σ s : SG} {i j : Nat} {x : Int64} {y : Int32} (hX : uCx M N p q C g la u v) (h : uRI M N p q C g la u v ka kb σ) (hi : i < M) (hj : j < N) (pi : 0 ≤ p i) (qj : 0 ≤ q j) (hlt : udA σ i < 2305843009213693951) (hr : udA σ i + C i j < udB σ j) (hx : x.toInt = udA σ i + C i j) (hy : y.toInt = i) (es : s = sI (sJ σ 21 (24 + j) x) 22 (24 + j) y) : (∃ kb', uRI M N p q C g la u v ka kb' s) ∧ uPhi M N s < uPhi M N σ := by
  have nn := h.nn hX
  obtain ⟨x1, x2, x3, x4, x5, x6, x7, x8⟩ := hX
  obtain ⟨h1, h2, h3, h4, h5⟩ := h
  have eA : ∀ k, k < 24 → udA s k = udA σ k := fun k hk => by unfold udA; rw [es, g_sI2, g_sJ, if_neg (by omega)]
  have eB : ∀ k, udB s k = if k = j then udA σ i + C i j else udB σ k := fun k => by
    unfold udB; rw [es, g_sI2, g_sJ]
    by_cases z : k = j
    · rw [if_pos ⟨rfl, by omega⟩, if_pos z, hx]
    · rw [if_neg (by omega), if_neg z]
  have fA : ∀ k, k < 24 → ufA s k = ufA σ k := fun k hk => by unfold ufA; rw [es, g_sI, if_neg (by omega), g_sJ1]
  have fB : ∀ k, ufB s k = if k = j then (i : Int) else ufB σ k := fun k => by
    unfold ufB; rw [es, g_sI]
    by_cases z : k = j
    · rw [if_pos ⟨rfl, by omega⟩, if_pos z, hy]
    · rw [if_neg (by omega), if_neg z, g_sJ1]
  have ph : uPhi M N s = uPhi M N σ - udB σ j + (udA σ i + C i j) := by
    unfold uPhi
    rw [uS_eq (f := udA s) (g := udA σ) M (fun k hk => eA k (by omega)), uS_set eB N hj]; omega
  have c := x3 i j hi hj
  have cu := x6 i j hi hj pi qj
  have ui := x4 i hi
  have vj := x5 j hj
  have ai := h1 i hi
  have dj := nn.2.1 j hj
  have di := nn.1 i hi
  have nb := nn.2.2
  have phn : 0 ≤ uPhi M N s := by
    have s1 := uS_nn (f := udA s) M (fun k hk => by rw [eA k (by omega)]; exact (nn.1 k hk).1)
    have s2 := uS_nn (f := udB s) N (fun k hk => by
      rw [eB k]
      by_cases z : k = j
      · rw [if_pos z]; omega
      · rw [if_neg z]; exact (nn.2.1 k hk).1)
    unfold uPhi; omega
  have ai : u i ≤ udA σ i ∧ ka i ≤ (udA σ i - u i) * 110680464442257309649 - uPhi M N σ := by
    rcases ai with z | z
    · omega
    · exact ⟨z.2.1, z.2.2.2.2⟩
  obtain ⟨kb', ek⟩ : ∃ kb' : Nat → Int, ∀ k, kb' k = if k = j then (udA σ i + C i j - v j) * 110680464442257309649 - uPhi M N s else kb k := ⟨_, fun _ => rfl⟩
  refine ⟨⟨kb', ?_, ?_, ?_, ?_, ?_⟩, by omega⟩
  · intro k hk
    rw [eA k (by omega)]
    rcases h1 k hk with z | ⟨z1, z2, z3, z4, z5⟩
    · exact Or.inl z
    · exact Or.inr ⟨z1, z2, z3, z4, by omega⟩
  · intro k hk
    rw [eB k, ek k]
    by_cases z : k = j
    · rw [if_pos z, if_pos z, z]
      exact Or.inr ⟨qj, by omega, by omega, by omega, by omega⟩
    · rw [if_neg z, if_neg z]
      rcases h2 k hk with z | ⟨z1, z2, z3, z4, z5⟩
      · exact Or.inl z
      · exact Or.inr ⟨z1, z2, z3, z4, by omega⟩
  · intro k hk z
    rw [eA k (by omega)]; exact h3 k hk z
  · intro k hk
    rw [eA k (by omega), fA k (by omega)]
    rcases h4 k hk with z | ⟨j', z1, z2, z3, z4, z5, z6, z7⟩
    · exact Or.inl z
    · refine Or.inr ⟨j', z1, z2, z3, ?_, ?_, z6, ?_⟩
      · rw [eB j']; split <;> omega
      · rw [eB j']
        by_cases e : j' = j
        · rw [if_pos e]; rw [e] at z5; rw [e]; omega
        · rw [if_neg e]; exact z5
      · rw [ek j']
        by_cases e : j' = j
        · rw [if_pos e]
          rw [e] at z4 z7
          have := h2 j hj
          omega
        · rw [if_neg e]; exact z7
  · intro k hk
    rw [eB k, fB k, ek k]
    by_cases z : k = j
    · rw [if_pos z, if_pos z, if_pos z, z]
      refine Or.inr ⟨i, hi, rfl, pi, qj, by rw [eA i (by omega)]; omega, by rw [eA i (by omega)]; omega, by omega, by omega⟩
    · rw [if_neg z, if_neg z, if_neg z]
      rcases h5 k hk with y | ⟨i', z1, z2, z3, z4, z5, z6, z7, z8⟩
      · exact Or.inl y
      · exact Or.inr ⟨i', z1, z2, z3, z4, by rw [eA i' (by omega)]; exact z5, by rw [eA i' (by omega)]; exact z6, z7, z8⟩
/-- a giver's reach falls -/
theorem uRI.relA {M N : Nat} {p q : Nat → Int} {C g : Nat → Nat → Int} {la u v ka kb : Nat → Int} {σ s : SG} {i j : Nat} {x : Int64} {y : Int32} (hX : uCx M N p q C g la u v) (h : uRI M N p q C g la u v ka kb σ) (hi : i < M) (hj : j < N) (gp : 0 < g i j) (hlt : udB σ j < 2305843009213693951) (hr : udB σ j - C i j < udA σ i) (hx : x.toInt = udB σ j - C i j) (hy : y.toInt = j) (es : s = sI (sJ σ 21 i x) 22 i y) : (∃ ka', uRI M N p q C g la u v ka' kb s) ∧ uPhi M N s < uPhi M N σ := by
  have nn := h.nn hX
  obtain ⟨x1, x2, x3, x4, x5, x6, x7, x8⟩ := hX
  obtain ⟨h1, h2, h3, h4, h5⟩ := h
  have eB : ∀ k, udB s k = udB σ k := fun k => by unfold udB; rw [es, g_sI2, g_sJ, if_neg (by omega)]
  have eA : ∀ k, udA s k = if k = i then udB σ j - C i j else udA σ k := fun k => by
    unfold udA; rw [es, g_sI2, g_sJ]
    by_cases z : k = i
    · rw [if_pos ⟨rfl, z⟩, if_pos z, hx]
    · rw [if_neg (fun y => z y.2), if_neg z]
  have fB : ∀ k, ufB s k = ufB σ k := fun k => by unfold ufB; rw [es, g_sI, if_neg (by omega), g_sJ1]
  have fA : ∀ k, ufA s k = if k = i then (j : Int) else ufA σ k := fun k => by
    unfold ufA; rw [es, g_sI]
    by_cases z : k = i
    · rw [if_pos ⟨rfl, z⟩, if_pos z, hy]
    · rw [if_neg (fun y => z y.2), if_neg z, g_sJ1]
  have ph : uPhi M N s = uPhi M N σ - udA σ i + (udB σ j - C i j) := by
    unfold uPhi
    rw [uS_eq (f := udB s) (g := udB σ) N (fun k _ => eB k), uS_set eA M hi]; omega
  have c := x3 i j hi hj
  have cg := x7 i j hi hj gp
  have ui := x4 i hi
  have vj := x5 j hj
  have dj := nn.2.1 j hj
  have di := nn.1 i hi
  have nb := nn.2.2
  have bj : v j ≤ udB σ j ∧ kb j ≤ (udB σ j - v j) * 110680464442257309649 - uPhi M N σ := by
    rcases h2 j hj with z | z
    · omega
    · exact ⟨z.2.1, z.2.2.2.2⟩
  have phn : 0 ≤ uPhi M N s := by
    have s1 := uS_nn (f := udA s) M (fun k hk => by
      rw [eA k]
      by_cases z : k = i
      · rw [if_pos z]; omega
      · rw [if_neg z]; exact (nn.1 k hk).1)
    have s2 := uS_nn (f := udB s) N (fun k hk => by rw [eB k]; exact (nn.2.1 k hk).1)
    unfold uPhi; omega
  obtain ⟨ka', ek⟩ : ∃ ka' : Nat → Int, ∀ k, ka' k = if k = i then (udB σ j - C i j - u i) * 110680464442257309649 - uPhi M N s else ka k := ⟨_, fun _ => rfl⟩
  refine ⟨⟨ka', ?_, ?_, ?_, ?_, ?_⟩, by omega⟩
  · intro k hk
    rw [eA k, ek k]
    by_cases z : k = i
    · rw [if_pos z, if_pos z, z]
      exact Or.inr ⟨cg.2.1, by omega, by omega, by omega, by omega⟩
    · rw [if_neg z, if_neg z]
      rcases h1 k hk with z | ⟨z1, z2, z3, z4, z5⟩
      · exact Or.inl z
      · exact Or.inr ⟨z1, z2, z3, z4, by omega⟩
  · intro k hk
    rw [eB k]
    rcases h2 k hk with z | ⟨z1, z2, z3, z4, z5⟩
    · exact Or.inl z
    · exact Or.inr ⟨z1, z2, z3, z4, by omega⟩
  · intro k hk z
    rw [eA k]
    by_cases e : k = i
    · rw [if_pos e]
      rw [e] at z
      have := h3 i hi z
      have := x8 i hi z
      omega
    · rw [if_neg e]; exact h3 k hk z
  · intro k hk
    rw [eA k, fA k, ek k]
    by_cases z : k = i
    · rw [if_pos z, if_pos z, if_pos z, z]
      refine Or.inr ⟨j, hj, rfl, gp, by rw [eB j]; omega, by rw [eB j]; omega, by omega, by omega⟩
    · rw [if_neg z, if_neg z, if_neg z]
      rcases h4 k hk with y | ⟨j', z1, z2, z3, z4, z5, z6, z7⟩
      · exact Or.inl y
      · exact Or.inr ⟨j', z1, z2, z3, by rw [eB j']; exact z4, by rw [eB j']; exact z5, z6, z7⟩
  · intro k hk
    rw [eB k, fB k]
    rcases h5 k hk with y | ⟨i', z1, z2, z3, z4, z5, z6, z7, z8⟩
    · exact Or.inl y
    · refine Or.inr ⟨i', z1, z2, z3, z4, ?_, ?_, z7, ?_⟩
      · rw [eA i']; split <;> omega
      · rw [eA i']
        by_cases e : i' = i
        · rw [if_pos e]; rw [e] at z6; rw [e]; omega
        · rw [if_neg e]; exact z6
      · rw [ek i']
        by_cases e : i' = i
        · rw [if_pos e]
          rw [e] at z5 z8
          have := h1 i hi
          omega
        · rw [if_neg e]; exact z8
