/-! ===== the model lays out what is carried ===== -/
theorem j_bmod {x : Int} (h : -9223372036854775808 ≤ x) (h2 : x < 9223372036854775808) : x.bmod (2 ^ 64) = x := by
  rw [Int.bmod_def]; omega
theorem j_add {a b : Int64} {x y : Int} (ha : a.toInt = x) (hb : b.toInt = y) (h : -9223372036854775808 ≤ x + y) (h2 : x + y < 9223372036854775808) : (a + b).toInt = x + y := by
  rw [Int64.toInt_add, ha, hb, j_bmod h h2]
theorem j_sub {a b : Int64} {x y : Int} (ha : a.toInt = x) (hb : b.toInt = y) (h : -9223372036854775808 ≤ x - y) (h2 : x - y < 9223372036854775808) : (a - b).toInt = x - y := by
  rw [Int64.toInt_sub, ha, hb, j_bmod h h2]
theorem j_mul {a b : Int64} {x y : Int} (ha : a.toInt = x) (hb : b.toInt = y) (h : -9223372036854775808 ≤ x * y) (h2 : x * y < 9223372036854775808) : (a * b).toInt = x * y := by
  rw [Int64.toInt_mul, ha, hb, j_bmod h h2]
theorem j_le {a b : Int64} : 0 ≤ lg_cmp a b ↔ b.toInt ≤ a.toInt := by
  unfold lg_cmp
  by_cases h : a > b
  · rw [if_pos h]
    have := Int64.lt_iff_toInt_lt.mp h
    exact ⟨fun _ => by omega, fun _ => by decide⟩
  · rw [if_neg h]
    have h' : ¬ b.toInt < a.toInt := fun z => h (Int64.lt_iff_toInt_lt.mpr z)
    by_cases e : a = b
    · rw [if_pos e, e]
      exact ⟨fun _ => Int.le_refl _, fun _ => by decide⟩
    · rw [if_neg e]
      exact ⟨fun z => absurd z (by decide), fun z => absurd (Int64.toInt_inj.mp (by omega)) e⟩
def uA (p l : Nat → Int) (i : Nat) : Int := if p i < 0 then 0 else l i
def uab (x : Int) : Int := if 0 ≤ x then x else -x
def uC (a b : Int) (p l q m : Nat → Int) (i j : Nat) : Int := a * uab (uS l i - uS m j) + b * uab (p i - q j)
theorem z_abs {x : Int32} {v : Int} (h : x.toInt = v) (h1 : -2147483648 < v) : (if 0 ≤ x then x else 0 - x).toInt = uab v := by
  have k0 : ((0 : Int32)).toInt = 0 := rfl
  unfold uab
  by_cases z : 0 ≤ x
  · rw [if_pos z]
    rw [z_le, k0, h] at z
    rw [if_pos z, h]
  · rw [if_neg z]
    rw [z_le, k0, h] at z
    have := z_hi x
    rw [if_neg z, z_subv k0 h (by omega) (by omega)]; omega
def rowS (p l : Nat → Int) (m : Nat) : Prop := m ≤ 24 ∧ ∀ j, j < m → -1 ≤ p j ∧ p j ≤ 127 ∧ 1 ≤ l j ∧ l j ≤ 64
theorem rowS.bg {p l : Nat → Int} {m : Nat} (h : rowS p l m) : ∀ k, k ≤ m → 0 ≤ uS l k ∧ uS l k ≤ 64 * k
  | 0, _ => ⟨Int.le_refl _, by show (0 : Int) ≤ _; omega⟩
  | k + 1, hk => by
    have := h.bg k (by omega)
    have := h.2 k (by omega)
    show 0 ≤ uS l k + l k ∧ uS l k + l k ≤ _
    omega
theorem rowS.ua {p l : Nat → Int} {m : Nat} (h : rowS p l m) {i : Nat} (hi : i < m) : 0 ≤ uA p l i ∧ uA p l i ≤ 64 ∧ (0 < uA p l i ↔ 0 ≤ p i) := by
  have := h.2 i hi
  unfold uA
  split <;> omega
theorem rowS.un {p l : Nat → Int} {m : Nat} (h : rowS p l m) : ∀ k, k ≤ m → 0 ≤ uS (uA p l) k ∧ uS (uA p l) k ≤ 64 * k
  | 0, _ => ⟨Int.le_refl _, by show (0 : Int) ≤ _; omega⟩
  | k + 1, hk => by
    have := h.un k (by omega)
    have := h.ua (i := k) (by omega)
    show 0 ≤ uS (uA p l) k + uA p l k ∧ uS (uA p l) k + uA p l k ≤ _
    omega
theorem uC_b {a b : Int} {p l q m : Nat → Int} {M N i j : Nat} (h : rowS p l M) (h' : rowS q m N) (hi : i < M) (hj : j < N) (ha : 0 ≤ a ∧ a ≤ 1000) (hb : 0 ≤ b ∧ b ≤ 1000) : 0 ≤ uC a b p l q m i j ∧ uC a b p l q m i j ≤ 2000000 ∧ 0 ≤ a * uab (uS l i - uS m j) ∧ a * uab (uS l i - uS m j) ≤ 1536000 ∧ 0 ≤ b * uab (p i - q j) ∧ b * uab (p i - q j) ≤ 128000 := by
  have b1 := h.bg i (by omega)
  have b2 := h'.bg j (by omega)
  have p1 := h.2 i hi
  have p2 := h'.2 j hj
  have hM := h.1
  have hN := h'.1
  have e1 : 0 ≤ uab (uS l i - uS m j) ∧ uab (uS l i - uS m j) ≤ 1536 := by unfold uab; split <;> omega
  have e2 : 0 ≤ uab (p i - q j) ∧ uab (p i - q j) ≤ 128 := by unfold uab; split <;> omega
  have m1 := Int.mul_nonneg ha.1 e1.1
  have m2 := Int.mul_nonneg hb.1 e2.1
  have m3 : a * uab (uS l i - uS m j) ≤ 1000 * 1536 := Int.mul_le_mul ha.2 e1.2 e1.1 (by omega)
  have m4 : b * uab (p i - q j) ≤ 1000 * 128 := Int.mul_le_mul hb.2 e2.2 e2.1 (by omega)
  unfold uC
  omega
theorem m_units {t : Nat} {p l : Nat → Int} {m : Nat} {σ : SG} {l1 : Int32} (hR : MRow t p l m σ) (hS : rowS p l m) (h1 : l1.toInt = t) : ∀ (d fuel k : Nat) (l2 l3 : Int32), d < fuel → k + d = m → l2.toInt = uS (uA p l) k → l3.toInt = k → uOk (m_X12_unitsOf_4 fuel σ l1 l2 l3) (fun v s => s = σ ∧ v.toInt = uS (uA p l) m) := by
  obtain ⟨r1, r2, r3, r4⟩ := hR
  have k24 : ((24 : Int32)).toInt = 24 := rfl
  have k0 : ((0 : Int32)).toInt = 0 := rfl
  intro d
  induction d with
  | zero =>
    intro fuel k l2 l3 hf hk h2 h3
    cases fuel with
    | zero => omega
    | succ fuel =>
      show uOk (m_X12_unitsOf_4_s _ σ l1 l2 l3) _
      unfold m_X12_unitsOf_4_s
      rw [z_nv h1]
      refine ok_i (by omega) (ok_ite (fun _ => ok_r ⟨rfl, by rw [h2, show k = m by omega]⟩) (fun q => absurd (z_le.mpr (by rw [r3, h3]; omega)) q))
  | succ d ih =>
    intro fuel k l2 l3 hf hk h2 h3
    cases fuel with
    | zero => omega
    | succ fuel =>
      show uOk (m_X12_unitsOf_4_s _ σ l1 l2 l3) _
      unfold m_X12_unitsOf_4_s
      have hi : (24 * l1 + l3).toInt = (24 * t + k : Nat) := by rw [z_addv (z_mulv k24 h1 (by omega) (by omega)) h3 (by omega) (by omega)]; omega
      rw [z_nv h1, z_nv hi]
      have r := r4 k (by omega)
      have b := hS.2 k (by omega)
      have u := hS.un k (by omega)
      have m44 : ∀ s0 : Int32, s0.toInt = uA p l k → uOk (m_X12_unitsOf_44 (m_X12_unitsOf_4 fuel) σ l1 l3 s0 l2) (fun v s => s = σ ∧ v.toInt = uS (uA p l) m) := fun s0 e0 => by
        have ua := hS.ua (i := k) (by omega)
        unfold m_X12_unitsOf_44
        refine ok_l fun v6 e6 => ok_l fun v8 e8 => ih fuel (k + 1) v6 v8 (by omega) (by omega) ?_ ?_
        · rw [e6, z_addv h2 e0 (by omega) (by omega)]; rfl
        · rw [e8, z_add1 (by omega), h3]; rfl
      refine ok_i (by omega) (ok_ite (fun q => absurd (z_le.mp q) (by rw [r3, h3]; omega)) (fun _ => ok_i (by omega) (ok_ite (fun q => ok_i (by omega) (m44 _ ?_)) (fun q => m44 0 ?_))))
      · rw [z_le, k0, r.1] at q
        rw [r.2]; unfold uA; rw [if_neg (by omega)]
      · rw [z_le, k0, r.1] at q
        unfold uA; rw [if_pos (by omega)]; rfl
theorem m_unitsOf {t : Nat} {p l : Nat → Int} {m : Nat} {σ : SG} {l1 : Int32} (hR : MRow t p l m σ) (hS : rowS p l m) (h1 : l1.toInt = t) : uOk (m_X12_unitsOf σ l1) (fun v s => s = σ ∧ v.toInt = uS (uA p l) m) := by
  have := hS.1
  exact m_units hR hS h1 m FV 0 0 0 (FV_big (by omega)) (by omega) rfl rfl
/-- what carrying may change in the model -/
def frC (σ σ' : SG) : Prop := (∀ k i, ¬ (17 ≤ k ∧ k < 23) → σ'.1 k i = σ.1 k i) ∧ (∀ k i, ¬ (20 ≤ k ∧ k < 22) → σ'.2.1 k i = σ.2.1 k i) ∧ σ'.2.2 = σ.2.2
theorem frC.rf {σ : SG} : frC σ σ := ⟨fun _ _ _ => rfl, fun _ _ _ => rfl, rfl⟩
theorem frC.tr {σ σ1 σ2 : SG} (h : frC σ σ1) (q : frC σ1 σ2) : frC σ σ2 := ⟨fun k i z => (q.1 k i z).trans (h.1 k i z), fun k i z => (q.2.1 k i z).trans (h.2.1 k i z), q.2.2.trans h.2.2⟩
theorem frC.sI {σ σ1 : SG} {k i : Nat} {x : Int32} (h : frC σ σ1) (q : 17 ≤ k ∧ k < 23) : frC σ (sI σ1 k i x) := ⟨fun k' i' z => by rw [g_sI, if_neg (by omega)]; exact h.1 k' i' z, fun k' i' z => h.2.1 k' i' z, h.2.2⟩
theorem frC.sJ {σ σ1 : SG} {k i : Nat} {x : Int64} (h : frC σ σ1) (q : 20 ≤ k ∧ k < 22) : frC σ (sJ σ1 k i x) := ⟨fun k' i' z => h.1 k' i' z, fun k' i' z => by rw [g_sJ, if_neg (by omega)]; exact h.2.1 k' i' z, h.2.2⟩
theorem frC.M {σ σ' : SG} (h : frC σ σ') : frM [10] σ σ' := ⟨fun k i z => h.1 k i (fun y => z (by
  unfold rgM
  rw [if_neg (by omega), if_neg (by omega), if_neg (by omega), if_neg (by omega), if_neg (by omega), if_neg (by omega), if_neg (by omega), if_neg (by omega), if_pos (by omega)]; decide)), fun z => absurd (by decide) z, h.2.2⟩
theorem MRow.C {t : Nat} {p l : Nat → Int} {m : Nat} {σ σ' : SG} (h : MRow t p l m σ) (f : frC σ σ') : MRow t p l m σ' := h.fr f.M (by decide)
/-- what is laid out: left, costs, and what goes -/
def MLy (M N : Nat) (p l q m : Nat → Int) (C : Nat → Nat → Int) (i0 i j : Nat) (σ : SG) : Prop := (∀ i', i' < i0 → (σ.1 17 i').toInt = uA p l i') ∧ (∀ j', j' < N → (0 < i ∨ j' < j) → (σ.1 18 j').toInt = uA q m j') ∧ ∀ i' j', i' < M → j' < N → (i' < i ∨ (i' = i ∧ j' < j)) → (σ.2.1 20 (24 * i' + j')).toInt = C i' j' ∧ (σ.1 19 (24 * i' + j')).toInt = 0
theorem m_lay64 {x y M N : Nat} {p l q m : Nat → Int} {K : Nat → Int} {l1 l2 l3 l4 l5 : Int32} {i : Nat} {c5 : SG → Int32 → Int32 → Int32 → Int32 → Option (Unit × SG)} {Q : Unit → SG → Prop} (hK : KB K) (hp : rowS p l M) (hq : rowS q m N) (h1 : l1.toInt = x) (h2 : l2.toInt = y) (h3 : l3.toInt = uS l i) (h4 : l4.toInt = i) (h5 : l5.toInt = p i) (hi : i < M) (σ0 : SG) (hR0 : MRow x p l M σ0) (hT0 : MRow y q m N σ0) (hK0 : uKM K σ0)
    (kk : ∀ (s : SG) (v w : Int32), frC σ0 s → MLy M N p l q m (uC (K 5) (K 6) p l q m) (i + 1) i N s → v.toInt = uS l (i + 1) → w.toInt = (i + 1 : Nat) → uOk (c5 s l1 l2 v w) Q) :
    ∀ (d fuel j : Nat) (σ : SG) (l6 l7 : Int32), d < fuel → j + d = N → frC σ0 σ → MLy M N p l q m (uC (K 5) (K 6) p l q m) (i + 1) i j σ → l6.toInt = uS m j → l7.toInt = j → uOk (m_X12_lay_64 c5 fuel σ l1 l2 l3 l4 l5 l6 l7) Q := by
  have k24 : ((24 : Int32)).toInt = 24 := rfl
  have k0 : ((0 : Int32)).toInt = 0 := rfl
  have hM := hp.1
  have hN := hq.1
  have x8 := hR0.1
  have y8 := hT0.1
  have bp := hp.2 i hi
  have bg := hp.bg i (by omega)
  intro d
  induction d with
  | zero =>
    intro fuel j σ l6 l7 hf hd hF hL h6 h7
    cases fuel with
    | zero => omega
    | succ fuel =>
      obtain ⟨r1, r2, r3, r4⟩ := hR0.C hF
      obtain ⟨t1, t2, t3, t4⟩ := hT0.C hF
      show uOk (m_X12_lay_64_s c5 _ σ l1 l2 l3 l4 l5 l6 l7) Q
      unfold m_X12_lay_64_s
      have hx : (24 * l1 + l4).toInt = (24 * x + i : Nat) := by rw [z_addv (z_mulv k24 h1 (by omega) (by omega)) h4 (by omega) (by omega)]; omega
      rw [z_nv h2, z_nv hx]
      refine ok_i (by omega) (ok_ite (fun _ => ok_i (by omega) (ok_l fun v14 e14 => ok_l fun v16 e16 => kk σ v14 v16 hF (by rw [show j = N by omega] at hL; exact hL) ?_ ?_)) (fun q => absurd (z_le.mpr (by rw [t3, h7]; omega)) q))
      · rw [e14, z_addv h3 (r4 i hi).2 (by omega) (by omega)]; rfl
      · rw [e16, z_add1 (by omega), h4]; rfl
  | succ d ih =>
    intro fuel j σ l6 l7 hf hd hF hL h6 h7
    cases fuel with
    | zero => omega
    | succ fuel =>
      obtain ⟨t1, t2, t3, t4⟩ := hT0.C hF
      have bq := hq.2 j (by omega)
      have bg2 := hq.bg j (by omega)
      have tj := t4 j (by omega)
      show uOk (m_X12_lay_64_s c5 _ σ l1 l2 l3 l4 l5 l6 l7) Q
      unfold m_X12_lay_64_s
      have hy : (24 * l2 + l7).toInt = (24 * y + j : Nat) := by rw [z_addv (z_mulv k24 h2 (by omega) (by omega)) h7 (by omega) (by omega)]; omega
      have hc : (24 * l4 + l7).toInt = (24 * i + j : Nat) := by rw [z_addv (z_mulv k24 h4 (by omega) (by omega)) h7 (by omega) (by omega)]; omega
      have m116 : ∀ (l8 s0 : Int32), l8.toInt = q j → s0.toInt = uA q m j → uOk (m_X12_lay_116 c5 (m_X12_lay_64 c5 fuel) σ l1 l2 l3 l4 l5 l6 l7 l8 s0 l7) Q := fun l8 s0 e8 e0 => by
        unfold m_X12_lay_116
        rw [z_nv h7]
        refine ok_i (by omega) (ok_l fun s24 e24 => ok_g rfl (ok_l fun v27 e27 => ok_g rfl (ok_l fun v30 e30 => ?_)))
        have F24 : frC σ0 s24 := by rw [e24]; exact hF.sI (by omega)
        have v27' : v27.toInt = uab (uS l i - uS m j) := by rw [e27]; exact z_abs (z_subv h3 h6 (by omega) (by omega)) (by omega)
        have v30' : v30.toInt = uab (p i - q j) := by rw [e30]; exact z_abs (z_subv h5 e8 (by omega) (by omega)) (by omega)
        have cb := uC_b (a := K 5) (b := K 6) hp hq hi (show j < N by omega) (hK 5 (by omega)) (hK 6 (by omega))
        have p5 : (s24.1 4 (5 : Int32).toNatClampNeg).toInt = K 5 := by show (s24.1 4 5).toInt = K 5; rw [F24.1 _ _ (by omega)]; exact hK0 5 (by omega)
        have p6 : (s24.1 4 (6 : Int32).toNatClampNeg).toInt = K 6 := by show (s24.1 4 6).toInt = K 6; rw [F24.1 _ _ (by omega)]; exact hK0 6 (by omega)
        rw [z_nv hc]
        refine ok_i (by omega) (ok_l fun s33 e33 => ok_i (by omega) (ok_l fun s36 e36 => ?_))
        have F36 : frC σ0 s36 := by rw [e36, e33]; exact (F24.sJ (by omega)).sI (by omega)
        rw [z_nv hy]
        refine ok_i (by omega) (ok_l fun v39 e39 => ok_l fun v41 e41 => ih fuel (j + 1) s36 v39 v41 (by omega) (by omega) F36 ⟨fun i' hi' => ?_, fun j' hj' hh => ?_, fun i' j' hi' hj' hh => ?_⟩ ?_ ?_)
        · rw [e36, g_sI, if_neg (by omega), e33, g_sJ1, e24, g_sI, if_neg (by omega)]; exact hL.1 i' hi'
        · rw [e36, g_sI, if_neg (by omega), e33, g_sJ1, e24, g_sI]
          by_cases e : j' = j
          · rw [if_pos ⟨rfl, e⟩, e]; exact e0
          · rw [if_neg (fun z => e z.2)]; exact hL.2.1 j' hj' (by omega)
        · by_cases e : i' = i ∧ j' = j
          · rw [e.1, e.2]
            refine ⟨?_, by rw [e36, g_sI_s]; rfl⟩
            rw [e36, g_sI2, e33, g_sJ, if_pos ⟨rfl, rfl⟩]
            unfold uC at cb ⊢
            exact j_add (j_mul (by rw [Int32.toInt_toInt64]; exact p5) (by rw [Int32.toInt_toInt64]; exact v27') (by omega) (by omega)) (j_mul (by rw [Int32.toInt_toInt64]; exact p6) (by rw [Int32.toInt_toInt64]; exact v30') (by omega) (by omega)) (by omega) (by omega)
          · have := hL.2.2 i' j' hi' hj' (by omega)
            rw [e36, g_sI2, e33, g_sJ, if_neg (by omega), g_sI, if_neg (by omega), g_sJ1, e24, g_sI2, g_sI, if_neg (by omega)]
            exact this
        · have hm : (s36.1 2 (24 * y + j)).toInt = m j := by rw [F36.1 _ _ (by omega)]; exact (hT0.2.2.2 j (by omega)).2
          rw [e39, z_addv h6 hm (by omega) (by omega)]; rfl
        · rw [e41, z_add1 (by omega), h7]; rfl
      rw [z_nv h2, z_nv hy]
      refine ok_i (by omega) (ok_ite (fun q => absurd (z_le.mp q) (by rw [t3, h7]; omega)) (fun _ => ok_i (by omega) (ok_l fun v19 e19 => ok_ite (fun q => ok_i (by omega) (m116 v19 _ ?_ ?_)) (fun q => m116 v19 0 ?_ ?_))))
      · rw [e19]; exact tj.1
      · rw [z_le, k0, e19, tj.1] at q
        rw [tj.2]; unfold uA; rw [if_neg (by omega)]
      · rw [e19]; exact tj.1
      · rw [z_le, k0, e19, tj.1] at q
        unfold uA; rw [if_pos (by omega)]; rfl
theorem m_lay5 {x y M N : Nat} {p l q m : Nat → Int} {K : Nat → Int} {l1 l2 : Int32} (hK : KB K) (hp : rowS p l M) (hq : rowS q m N) (h1 : l1.toInt = x) (h2 : l2.toInt = y) (σ0 : SG) (hR0 : MRow x p l M σ0) (hT0 : MRow y q m N σ0) (hK0 : uKM K σ0) :
    ∀ (d fuel i : Nat) (σ : SG) (l3 l4 : Int32), d < fuel → i + d = M → frC σ0 σ → MLy M N p l q m (uC (K 5) (K 6) p l q m) i i 0 σ → l3.toInt = uS l i → l4.toInt = i → uOk (m_X12_lay_5 fuel σ l1 l2 l3 l4) (fun _ s => frC σ0 s ∧ MLy M N p l q m (uC (K 5) (K 6) p l q m) M M 0 s) := by
  have k24 : ((24 : Int32)).toInt = 24 := rfl
  have k0 : ((0 : Int32)).toInt = 0 := rfl
  have hM := hp.1
  have hN := hq.1
  have x8 := hR0.1
  intro d
  induction d with
  | zero =>
    intro fuel i σ l3 l4 hf hd hF hL h3 h4
    cases fuel with
    | zero => omega
    | succ fuel =>
      obtain ⟨r1, r2, r3, r4⟩ := hR0.C hF
      show uOk (m_X12_lay_5_s _ σ l1 l2 l3 l4) _
      unfold m_X12_lay_5_s
      rw [z_nv h1]
      refine ok_i (by omega) (ok_ite (fun _ => ok_r ⟨hF, by rw [show i = M by omega] at hL; exact hL⟩) (fun q => absurd (z_le.mpr (by rw [r3, h4]; omega)) q))
  | succ d ih =>
    intro fuel i σ l3 l4 hf hd hF hL h3 h4
    cases fuel with
    | zero => omega
    | succ fuel =>
      obtain ⟨r1, r2, r3, r4⟩ := hR0.C hF
      have ri := r4 i (by omega)
      show uOk (m_X12_lay_5_s _ σ l1 l2 l3 l4) _
      unfold m_X12_lay_5_s
      have hx : (24 * l1 + l4).toInt = (24 * x + i : Nat) := by rw [z_addv (z_mulv k24 h1 (by omega) (by omega)) h4 (by omega) (by omega)]; omega
      have m57 : ∀ (l5 s0 : Int32), l5.toInt = p i → s0.toInt = uA p l i → uOk (m_X12_lay_57 (m_X12_lay_5 fuel) σ l1 l2 l3 l4 l5 s0 l4) (fun _ s => frC σ0 s ∧ MLy M N p l q m (uC (K 5) (K 6) p l q m) M M 0 s) := fun l5 s0 e5 e0 => by
        unfold m_X12_lay_57
        rw [z_nv h4]
        refine ok_i (by omega) (ok_l fun s9 e9 => ?_)
        refine m_lay64 hK hp hq h1 h2 h3 h4 e5 (by omega) σ0 hR0 hT0 hK0 (fun s v w f hy hv hw => ih fuel (i + 1) s v w (by omega) (by omega) f ⟨hy.1, fun j' hj' _ => hy.2.1 j' hj' (Or.inr hj'), fun i' j' hi' hj' hh => hy.2.2 i' j' hi' hj' (by omega)⟩ hv hw) N FV 0 s9 0 0 (FV_big (by omega)) (by omega) (by rw [e9]; exact hF.sI (by omega)) ⟨fun i' hi' => ?_, fun j' hj' hh => ?_, fun i' j' hi' hj' hh => ?_⟩ rfl rfl
        · rw [e9, g_sI]
          by_cases e : i' = i
          · rw [if_pos ⟨rfl, e⟩, e]; exact e0
          · rw [if_neg (fun z => e z.2)]; exact hL.1 i' (by omega)
        · rw [e9, g_sI, if_neg (by omega)]; exact hL.2.1 j' hj' hh
        · rw [e9, g_sI2, g_sI, if_neg (by omega)]; exact hL.2.2 i' j' hi' hj' (by omega)
      rw [z_nv h1, z_nv hx]
      refine ok_i (by omega) (ok_ite (fun q => absurd (z_le.mp q) (by rw [r3, h4]; omega)) (fun _ => ok_i (by omega) (ok_l fun v4 e4 => ok_ite (fun q => ok_i (by omega) (m57 v4 _ ?_ ?_)) (fun q => m57 v4 0 ?_ ?_))))
      · rw [e4]; exact ri.1
      · rw [z_le, k0, e4, ri.1] at q
        rw [ri.2]; unfold uA; rw [if_neg (by omega)]
      · rw [e4]; exact ri.1
      · rw [z_le, k0, e4, ri.1] at q
        unfold uA; rw [if_pos (by omega)]; rfl
theorem m_lay {x y M N : Nat} {p l q m : Nat → Int} {K : Nat → Int} {l1 l2 : Int32} {σ : SG} (hK : KB K) (hp : rowS p l M) (hq : rowS q m N) (h1 : l1.toInt = x) (h2 : l2.toInt = y) (hR0 : MRow x p l M σ) (hT0 : MRow y q m N σ) (hK0 : uKM K σ) : uOk (m_X12_lay σ l1 l2) (fun _ s => frC σ s ∧ MLy M N p l q m (uC (K 5) (K 6) p l q m) M M 0 s) := by
  have hM := hp.1
  exact m_lay5 hK hp hq h1 h2 σ hR0 hT0 hK0 M FV 0 σ 0 0 (FV_big (by omega)) (by omega) frC.rf ⟨fun i' hi' => by omega, fun j' hj' hh => by omega, fun i' j' hi' hj' hh => by omega⟩ rfl rfl
