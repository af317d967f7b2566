/-! ===== the class's search for the nearest taker ===== -/
def xR (σ : SG) (i : Nat) : Int := (σ.1 36 i).toInt
def xT (σ : SG) (j : Nat) : Int := (σ.1 37 j).toInt
def xV (σ : SG) (i : Nat) : Int := (σ.1 38 i).toInt
def xW (σ : SG) (j : Nat) : Int := (σ.1 39 j).toInt
def xd (σ : SG) (j : Nat) : Prop := ¬ σ.1 143 j = 0
def uXs (a b : Nat) (c f : Nat → Nat → Int) (A B r s : Nat → Int) (σ : SG) : Prop := (σ.1 (208 + 0) 3).toInt = a ∧ (σ.1 (208 + 1) 3).toInt = b ∧ (∀ i j, i < a → j < b → (σ.1 (95 + i) j).toInt = c i j ∧ (σ.1 (119 + i) j).toInt = f i j) ∧ (∀ i, i < a → (σ.1 34 i).toInt = r i ∧ (σ.1 (32 + 0) i).toInt = A i - uS (f i) b) ∧ ∀ j, j < b → (σ.1 35 j).toInt = s j ∧ (σ.1 (32 + 1) j).toInt = B j - uS (fun i => f i j) a
def frY (σ σ' : SG) : Prop := (∀ k i, ¬ (36 ≤ k ∧ k < 40) → k ≠ 143 → σ'.1 k i = σ.1 k i) ∧ σ'.2 = σ.2
theorem frY.rf {σ : SG} : frY σ σ := ⟨fun _ _ _ _ => rfl, rfl⟩
theorem frY.tr {σ σ1 σ2 : SG} (h : frY σ σ1) (q : frY σ1 σ2) : frY σ σ2 := ⟨fun k i a b => (q.1 k i a b).trans (h.1 k i a b), q.2.trans h.2⟩
theorem frY.sI {σ σ1 : SG} {k i : Nat} {x : Int32} (h : frY σ σ1) (q : (36 ≤ k ∧ k < 40) ∨ k = 143) : frY σ (sI σ1 k i x) := ⟨fun k' i' a b => by rw [g_sI, if_neg (by omega)]; exact h.1 k' i' a b, h.2⟩
theorem frY.K {σ σ' : SG} (h : frY σ σ') : frK σ σ' := ⟨fun k i z => h.1 k i (by omega) (by omega), h.2⟩
def frQ (σ σ' : SG) : Prop := (∀ k i, ¬ ((32 ≤ k ∧ k < 40) ∨ (95 ≤ k ∧ k < 144)) → σ'.1 k i = σ.1 k i) ∧ σ'.2 = σ.2
theorem frQ.rf {σ : SG} : frQ σ σ := ⟨fun _ _ _ => rfl, rfl⟩
theorem frQ.tr {σ σ1 σ2 : SG} (h : frQ σ σ1) (q : frQ σ1 σ2) : frQ σ σ2 := ⟨fun k i a => (q.1 k i a).trans (h.1 k i a), q.2.trans h.2⟩
theorem frQ.K {σ σ' : SG} (h : frQ σ σ') : frK σ σ' := ⟨fun k i z => h.1 k i (by omega), h.2⟩
theorem frY.Q {σ σ' : SG} (h : frY σ σ') : frQ σ σ' := ⟨fun k i z => h.1 k i (by omega) (by omega), h.2⟩
theorem fr1.Y {σ σ' : SG} (h : fr1 36 40 σ σ') : frY σ σ' := ⟨fun k i a _ => h.1 k i (by omega), h.2⟩
theorem uXs.Y {a b : Nat} {c f : Nat → Nat → Int} {A B r s : Nat → Int} {σ σ' : SG} (hx : a ≤ 24 ∧ b ≤ 24) (h : uXs a b c f A B r s σ) (q : frY σ σ') : uXs a b c f A B r s σ' := by
  obtain ⟨h1, h2, h3, h4, h5⟩ := h
  refine ⟨?_, ?_, fun i j hi hj => ?_, fun i hi => ?_, fun j hj => ?_⟩
  · rw [q.1 _ _ (by omega) (by omega)]; exact h1
  · rw [q.1 _ _ (by omega) (by omega)]; exact h2
  · rw [q.1 _ _ (by omega) (by omega), q.1 (119 + i) _ (by omega) (by omega)]; exact h3 i j hi hj
  · rw [q.1 _ _ (by omega) (by omega), q.1 (32 + 0) _ (by omega) (by omega)]; exact h4 i hi
  · rw [q.1 _ _ (by omega) (by omega), q.1 (32 + 1) _ (by omega) (by omega)]; exact h5 j hj
def frT (σ σ' : SG) : Prop := (∀ k i, k ≠ 37 → k ≠ 39 → σ'.1 k i = σ.1 k i) ∧ σ'.2 = σ.2
def uPr (i0 : Nat) (far : Nat → Int) (σ0 s : SG) (t : Nat) : Prop := ((xd σ0 t ∨ xT σ0 t ≤ far t) ∧ xT s t = xT σ0 t ∧ xW s t = xW σ0 t) ∨ (¬ xd σ0 t ∧ far t < xT σ0 t ∧ xT s t = far t ∧ xW s t = i0)
theorem x_reach17 {a b i0 : Nat} {c f : Nat → Nat → Int} {A B r s : Nat → Int} {reach : Int} {σ0 : SG} {l1 l2 : Int32} (hX : uXi a b c f A B r s) (hS0 : uXs a b c f A B r s σ0) (hi : i0 < a) (h1 : l1.toInt = i0) (h2 : l2.toInt = reach) (hr : 0 ≤ reach ∧ reach ≤ 2000000) :
    ∀ (d fuel k : Nat) (σ : SG) (l4 : Int32), d < fuel → k + d = b → l4.toInt = k → frT σ0 σ → (∀ t, t < k → uPr i0 (fun t => reach + (c i0 t - r i0 - s t)) σ0 σ t) → (∀ t, t < b → k ≤ t → xT σ t = xT σ0 t ∧ xW σ t = xW σ0 t) → uOk (m_X0_reachGiver_17 fuel σ l1 l2 l4) (fun _ q => frT σ0 q ∧ ∀ t, t < b → uPr i0 (fun t => reach + (c i0 t - r i0 - s t)) σ0 q t) := by
  have k0 : ((0 : Int32)).toInt = 0 := rfl
  obtain ⟨x1, x2, x3, x4, x5, x6, x7, x8, x9, x10, x11⟩ := hX
  obtain ⟨s1, s2, s3, s4, s5⟩ := hS0
  intro d
  induction d with
  | zero =>
    intro fuel k σ l4 hf hd h4 hF hP hQ
    cases fuel with
    | zero => omega
    | succ fuel =>
      show uOk (m_X0_reachGiver_17_s _ σ l1 l2 l4) _
      unfold m_X0_reachGiver_17_s
      have e2 : (σ.1 (208 + 1) 3).toInt = b := by rw [hF.1 _ _ (by omega) (by omega)]; exact s2
      exact ok_ite (fun _ => ok_r ⟨hF, fun t ht => hP t (by omega)⟩) (fun q => absurd (z_le.mpr (by rw [e2, h4]; omega)) q)
  | succ d ih =>
    intro fuel k σ l4 hf hd h4 hF hP hQ
    cases fuel with
    | zero => omega
    | succ fuel =>
      have hk : k < b := by omega
      have e2 : (σ.1 (208 + 1) 3).toInt = b := by rw [hF.1 _ _ (by omega) (by omega)]; exact s2
      have ec : (σ.1 (95 + i0) k).toInt = c i0 k := by rw [hF.1 _ _ (by omega) (by omega)]; exact (s3 i0 k hi hk).1
      have er : (σ.1 34 i0).toInt = r i0 := by rw [hF.1 _ _ (by omega) (by omega)]; exact (s4 i0 hi).1
      have es : (σ.1 35 k).toInt = s k := by rw [hF.1 _ _ (by omega) (by omega)]; exact (s5 k hk).1
      have ed : σ.1 143 k = σ0.1 143 k := hF.1 _ _ (by omega) (by omega)
      have c3 := x3 i0 k hi hk
      have c9 := x9 k hk
      have c11 := x11 i0 hi
      have m96 : ∀ q : SG, frT σ0 q → (∀ t, t < k + 1 → uPr i0 (fun t => reach + (c i0 t - r i0 - s t)) σ0 q t) → (∀ t, t < b → k + 1 ≤ t → xT q t = xT σ0 t ∧ xW q t = xW σ0 t) → uOk (m_X0_reachGiver_96 (m_X0_reachGiver_17 fuel) q l1 l2 l4) (fun _ q => frT σ0 q ∧ ∀ t, t < b → uPr i0 (fun t => reach + (c i0 t - r i0 - s t)) σ0 q t) := fun q f1 f2 f3 => by
        unfold m_X0_reachGiver_96
        exact ok_l fun v25 e25 => ih fuel (k + 1) q v25 (by omega) (by omega) (by rw [e25, z_add1 (by omega), h4]; rfl) f1 f2 f3
      have q0 := hQ k hk (Nat.le_refl _)
      have keep : (xd σ0 k ∨ xT σ0 k ≤ reach + (c i0 k - r i0 - s k)) → uOk (m_X0_reachGiver_96 (m_X0_reachGiver_17 fuel) σ l1 l2 l4) (fun _ q => frT σ0 q ∧ ∀ t, t < b → uPr i0 (fun t => reach + (c i0 t - r i0 - s t)) σ0 q t) := fun z => m96 σ hF (fun t ht => by
        by_cases e : t = k
        · rw [e]; exact Or.inl ⟨z, q0.1, q0.2⟩
        · exact hP t (by omega)) (fun t ht y => hQ t ht (by omega))
      show uOk (m_X0_reachGiver_17_s _ σ l1 l2 l4) _
      unfold m_X0_reachGiver_17_s
      rw [z_nv h1, z_nv h4]
      refine ok_ite (fun q => absurd (z_le.mp q) (by rw [e2, h4]; omega)) (fun _ => ok_i (by omega) (ok_i (by omega) (ok_i (by omega) (ok_i (by omega) (ok_l fun v13 e13 => ?_)))))
      have h13 : v13.toInt = reach + (c i0 k - r i0 - s k) := by
        rw [e13, z_subv (z_subv (z_addv h2 ec (by omega) (by omega)) er (by omega) (by omega)) es (by omega) (by omega)]; omega
      refine ok_i (by omega) (ok_ite (fun q => keep (Or.inl (by unfold xd; rw [← ed]; exact q))) (fun q => ok_i (by omega) (ok_ite (fun q2 => keep (Or.inr ?_)) (fun q2 => ok_i (by omega) (ok_l fun s20 e20 => ok_i (by omega) (ok_l fun s23 e23 => m96 s23 ⟨fun k' i' y1 y2 => ?_, ?_⟩ (fun t ht => ?_) (fun t ht y => ?_)))))))
      · rw [z_le, h13] at q2
        have : xT σ k = (σ.1 37 k).toInt := rfl
        omega
      · rw [e23, g_sI, if_neg (by omega), e20, g_sI, if_neg (by omega)]; exact hF.1 k' i' y1 y2
      · rw [e23, g_sI2, e20, g_sI2]; exact hF.2
      · by_cases e : t = k
        · rw [e]
          refine Or.inr ⟨?_, ?_, ?_, ?_⟩
          · unfold xd; rw [← ed]; exact q
          · rw [z_le, h13] at q2
            have : xT σ k = (σ.1 37 k).toInt := rfl
            show reach + (c i0 k - r i0 - s k) < xT σ0 k
            omega
          · unfold xT; rw [e23, g_sI, if_neg (by omega), e20, g_sI_s]; exact h13
          · unfold xW; rw [e23, g_sI_s]; exact h1
        · have o1 : xT s23 t = xT σ t := by unfold xT; rw [e23, g_sI, if_neg (by omega), e20, g_sI, if_neg (by omega)]
          have o2 : xW s23 t = xW σ t := by unfold xW; rw [e23, g_sI, if_neg (by omega), e20, g_sI, if_neg (by omega)]
          have := hP t (by omega)
          unfold uPr at this ⊢
          rw [o1, o2]; exact this
      · have o1 : xT s23 t = xT σ t := by unfold xT; rw [e23, g_sI, if_neg (by omega), e20, g_sI, if_neg (by omega)]
        have o2 : xW s23 t = xW σ t := by unfold xW; rw [e23, g_sI, if_neg (by omega), e20, g_sI, if_neg (by omega)]
        rw [o1, o2]; exact hQ t ht (by omega)
theorem x_reachGiver {a b i0 : Nat} {c f : Nat → Nat → Int} {A B r s : Nat → Int} {reach : Int} {σ : SG} {l1 l2 l3 : Int32} (hX : uXi a b c f A B r s) (hS : uXs a b c f A B r s σ) (hi : i0 < a) (h1 : l1.toInt = i0) (h2 : l2.toInt = reach) (hr : 0 ≤ reach ∧ reach ≤ 2000000) : uOk (m_X0_reachGiver σ l1 l2 l3) (fun _ q => fr1 36 40 σ q ∧ (∀ i, xR q i = if i = i0 then reach else xR σ i) ∧ (∀ i, xV q i = if i = i0 then l3.toInt else xV σ i) ∧ ∀ t, t < b → uPr i0 (fun t => reach + (c i0 t - r i0 - s t)) σ q t) := by
  have a24 := hX.1
  have b24 := hX.2.1
  unfold m_X0_reachGiver m_X0_reachGiver_0
  rw [z_nv h1]
  refine ok_i (by omega) (ok_l fun s2 e2 => ok_i (by omega) (ok_l fun s5 e5 => ?_))
  have f5 : fr1 36 40 σ s5 := by rw [e5, e2]; exact (fr1.rf.sI (by omega)).sI (by omega)
  have o1 : ∀ t, xT s5 t = xT σ t := fun t => by unfold xT; rw [e5, g_sI, if_neg (by omega), e2, g_sI, if_neg (by omega)]
  have o2 : ∀ t, xW s5 t = xW σ t := fun t => by unfold xW; rw [e5, g_sI, if_neg (by omega), e2, g_sI, if_neg (by omega)]
  have o3 : ∀ t, xd s5 t ↔ xd σ t := fun t => by unfold xd; rw [f5.1 _ _ (by omega)]
  refine (x_reach17 hX (hS.Y ⟨a24, b24⟩ f5.Y) hi h1 h2 hr b FV 0 s5 0 (FV_big (by omega)) (by omega) rfl ⟨fun _ _ _ _ => rfl, rfl⟩ (fun t ht => by omega) (fun t ht _ => ⟨rfl, rfl⟩)).mono (fun _ q ⟨g1, g2⟩ => ⟨⟨fun k i z => ?_, ?_⟩, fun i => ?_, fun i => ?_, fun t ht => ?_⟩)
  · rw [g1.1 k i (by omega) (by omega)]; exact f5.1 k i z
  · rw [g1.2]; exact f5.2
  · unfold xR
    rw [g1.1 _ _ (by omega) (by omega), e5, g_sI, if_neg (by omega), e2, g_sI]
    by_cases e : i = i0
    · rw [if_pos ⟨rfl, e⟩, if_pos e]; exact h2
    · rw [if_neg (fun y => e y.2), if_neg e]
  · unfold xV
    rw [g1.1 _ _ (by omega) (by omega), e5, g_sI]
    by_cases e : i = i0
    · rw [if_pos ⟨rfl, e⟩, if_pos e]
    · rw [if_neg (fun y => e y.2), if_neg e, e2, g_sI, if_neg (by omega)]
  · have := g2 t ht
    unfold uPr at this ⊢
    rw [o1, o2, o3] at this; exact this
theorem x_near7 {b : Nat} {σ : SG} (b24 : b ≤ 24) (e2 : (σ.1 (208 + 1) 3).toInt = b) (hex : ∃ t, t < b ∧ ¬ xd σ t ∧ xT σ t < 2147483647) : ∀ (d fuel k : Nat) (l1 l2 l3 : Int32), d < fuel → k + d = b → l3.toInt = k → ((l2.toInt = 2147483647 ∧ ∀ t, t < k → ¬ xd σ t → 2147483647 ≤ xT σ t) ∨ ∃ t0 : Nat, t0 < k ∧ l1.toInt = t0 ∧ ¬ xd σ t0 ∧ l2.toInt = xT σ t0 ∧ ∀ t, t < k → ¬ xd σ t → xT σ t0 ≤ xT σ t) → uOk (m_X0_nearestTaker_7 fuel σ l1 l2 l3) (fun v s => s = σ ∧ ∃ tk : Nat, tk < b ∧ v.toInt = tk ∧ ¬ xd σ tk ∧ ∀ t, t < b → ¬ xd σ t → xT σ tk ≤ xT σ t) := by
  intro d
  induction d with
  | zero =>
    intro fuel k l1 l2 l3 hf hd h3 hI
    cases fuel with
    | zero => omega
    | succ fuel =>
      have hk : k = b := by omega
      rw [hk] at hI h3
      show uOk (m_X0_nearestTaker_7_s _ σ l1 l2 l3) _
      unfold m_X0_nearestTaker_7_s
      refine ok_ite (fun _ => ok_r ⟨rfl, ?_⟩) (fun q => absurd (z_le.mpr (by rw [e2, h3]; omega)) q)
      rcases hI with ⟨z1, z2⟩ | ⟨t0, z1, z2, z3, z4, z5⟩
      · obtain ⟨t, y1, y2, y3⟩ := hex
        have := z2 t y1 y2
        omega
      · exact ⟨t0, z1, z2, z3, z5⟩
  | succ d ih =>
    intro fuel k l1 l2 l3 hf hd h3 hI
    cases fuel with
    | zero => omega
    | succ fuel =>
      have m46 : ∀ l1' l2' : Int32, ((l2'.toInt = 2147483647 ∧ ∀ t, t < k + 1 → ¬ xd σ t → 2147483647 ≤ xT σ t) ∨ ∃ t0 : Nat, t0 < k + 1 ∧ l1'.toInt = t0 ∧ ¬ xd σ t0 ∧ l2'.toInt = xT σ t0 ∧ ∀ t, t < k + 1 → ¬ xd σ t → xT σ t0 ≤ xT σ t) → uOk (m_X0_nearestTaker_46 (m_X0_nearestTaker_7 fuel) σ l1' l2' l3) (fun v s => s = σ ∧ ∃ tk : Nat, tk < b ∧ v.toInt = tk ∧ ¬ xd σ tk ∧ ∀ t, t < b → ¬ xd σ t → xT σ tk ≤ xT σ t) := fun l1' l2' h => by
        unfold m_X0_nearestTaker_46
        exact ok_l fun v9 e9 => ih fuel (k + 1) l1' l2' v9 (by omega) (by omega) (by rw [e9, z_add1 (by omega), h3]; rfl) h
      have keep : (xd σ k ∨ l2.toInt ≤ xT σ k) → uOk (m_X0_nearestTaker_46 (m_X0_nearestTaker_7 fuel) σ l1 l2 l3) (fun v s => s = σ ∧ ∃ tk : Nat, tk < b ∧ v.toInt = tk ∧ ¬ xd σ tk ∧ ∀ t, t < b → ¬ xd σ t → xT σ tk ≤ xT σ t) := fun z => m46 l1 l2 (by
        rcases hI with ⟨z1, z2⟩ | ⟨t0, z1, z2, z3, z4, z5⟩
        · refine Or.inl ⟨z1, fun t ht y => ?_⟩
          by_cases e : t = k
          · rw [e] at y ⊢
            rcases z with z | z
            · exact absurd z y
            · omega
          · exact z2 t (by omega) y
        · refine Or.inr ⟨t0, by omega, z2, z3, z4, fun t ht y => ?_⟩
          by_cases e : t = k
          · rw [e] at y ⊢
            rcases z with z | z
            · exact absurd z y
            · omega
          · exact z5 t (by omega) y)
      show uOk (m_X0_nearestTaker_7_s _ σ l1 l2 l3) _
      unfold m_X0_nearestTaker_7_s
      rw [z_nv h3]
      refine ok_ite (fun q => absurd (z_le.mp q) (by rw [e2, h3]; omega)) (fun _ => ok_i (by omega) (ok_ite (fun q => keep (Or.inl q)) (fun q => ok_i (by omega) (ok_ite (fun q2 => keep (Or.inr (z_le.mp q2))) (fun q2 => ok_i (by omega) (ok_l fun v7 e7 => m46 l3 v7 (Or.inr ⟨k, by omega, h3, q, by rw [e7]; rfl, fun t ht y => ?_⟩)))))))
      have q2 : ¬ l2.toInt ≤ xT σ k := fun z => q2 (z_le.mpr z)
      by_cases e : t = k
      · rw [e]; exact Int.le_refl _
      · rcases hI with ⟨z1, z2⟩ | ⟨t0, z1, z2, z3, z4, z5⟩
        · have := z2 t (by omega) y
          omega
        · have := z5 t (by omega) y
          omega
theorem x_nearestTaker {b : Nat} {σ : SG} (b24 : b ≤ 24) (e2 : (σ.1 (208 + 1) 3).toInt = b) (hex : ∃ t, t < b ∧ ¬ xd σ t ∧ xT σ t < 2147483647) : uOk (m_X0_nearestTaker σ) (fun v s => s = σ ∧ ∃ tk : Nat, tk < b ∧ v.toInt = tk ∧ ¬ xd σ tk ∧ ∀ t, t < b → ¬ xd σ t → xT σ tk ≤ xT σ t) :=
  x_near7 b24 e2 hex b FV 0 (-1) 2147483647 0 (FV_big (by omega)) (by omega) rfl (Or.inl ⟨rfl, fun t ht => by omega⟩)
/-- the search's words over the state -/
def uDs2 (a b : Nat) (c f : Nat → Nat → Int) (B r s : Nat → Int) (giver tk lim K : Nat) (cur : Int) (σ : SG) : Prop := ∃ ord, uDk a b c f B r s giver tk lim K cur ord (xR σ) (xV σ) (xT σ) (xW σ) (xd σ)
theorem x_givers2 {a b giver tk K : Nat} {c f : Nat → Nat → Int} {A B r s : Nat → Int} {cur : Int} {σ0 : SG} {l1 : Int32} (hX : uXi a b c f A B r s) (hS0 : uXs a b c f A B r s σ0) (h1 : l1.toInt = tk) (htk : tk < b) :
    ∀ (d fuel k : Nat) (σ : SG) (l2 : Int32), d < fuel → k + d = a → l2.toInt = k → fr1 36 40 σ0 σ → xT σ tk = cur → xd σ tk → uDs2 a b c f B r s giver tk k K cur σ → uOk (m_X0_reachGiversOf_2 fuel σ l1 l2) (fun _ q => fr1 36 40 σ0 q ∧ uDs2 a b c f B r s giver tk a K cur q) := by
  have k0 : ((0 : Int32)).toInt = 0 := rfl
  have a24 := hX.1
  have b24 := hX.2.1
  intro d
  induction d with
  | zero =>
    intro fuel k σ l2 hf hd h2 hF ht hdn hD
    cases fuel with
    | zero => omega
    | succ fuel =>
      obtain ⟨s1, s2, s3, s4, s5⟩ := hS0.Y ⟨a24, b24⟩ hF.Y
      show uOk (m_X0_reachGiversOf_2_s _ σ l1 l2) _
      unfold m_X0_reachGiversOf_2_s
      exact ok_ite (fun _ => ok_r ⟨hF, by rw [show k = a by omega] at hD; exact hD⟩) (fun q => absurd (z_le.mpr (by rw [s1, h2]; omega)) q)
  | succ d ih =>
    intro fuel k σ l2 hf hd h2 hF ht hdn hD
    cases fuel with
    | zero => omega
    | succ fuel =>
      have hS := hS0.Y ⟨a24, b24⟩ hF.Y
      obtain ⟨s1, s2, s3, s4, s5⟩ := id hS
      have hk : k < a := by omega
      have ef := (s3 k tk hk htk).2
      obtain ⟨ord, hDk⟩ := hD
      have cb := hDk.1
      have m46 : ∀ q : SG, fr1 36 40 σ0 q → xT q tk = cur → xd q tk → uDs2 a b c f B r s giver tk (k + 1) K cur q → uOk (m_X0_reachGiversOf_46 (m_X0_reachGiversOf_2 fuel) q l1 l2) (fun _ q => fr1 36 40 σ0 q ∧ uDs2 a b c f B r s giver tk a K cur q) := fun q f1 f2 f3 f4 => by
        unfold m_X0_reachGiversOf_46
        exact ok_l fun v12 e12 => ih fuel (k + 1) q v12 (by omega) (by omega) (by rw [e12, z_add1 (by omega), h2]; rfl) f1 f2 f3 f4
      show uOk (m_X0_reachGiversOf_2_s _ σ l1 l2) _
      unfold m_X0_reachGiversOf_2_s
      rw [z_nv h1, z_nv h2]
      refine ok_ite (fun q => absurd (z_le.mp q) (by rw [s1, h2]; omega)) (fun _ => ok_i (by omega) (ok_i (by omega) (ok_ite (fun q => m46 σ hF ht hdn ⟨ord, hDk.skip hk htk ht (Or.inl ?_)⟩) (fun q => ok_i (by omega) (ok_ite (fun q2 => m46 σ hF ht hdn ⟨ord, hDk.skip hk htk ht (Or.inr ?_)⟩) (fun q2 => ok_i (by omega) (ok_b (x_reachGiver (reach := cur) hX hS hk h2 ht cb) (fun _ s10 ⟨g1, g2, g3, g4⟩ => ?_))))))))
      · rw [z_le, ef, k0] at q; omega
      · exact fun z => q2 (z_eq.mpr z)
      · have fp : 0 < f k tk := by rw [z_le, ef, k0] at q; omega
        have rn : xR σ k = -1 := by
          have := Classical.not_not.mp q2
          unfold xR; rw [this]; rfl
        have od : ∀ t, xd s10 t ↔ xd σ t := fun t => by unfold xd; rw [g1.1 _ _ (by omega)]
        have odf : xd s10 = xd σ := funext fun t => propext (od t)
        have nw := hDk.more (R' := xR s10) (V' := xV s10) (T' := xT s10) (W' := xW s10) hX hk htk ht hdn fp rn (fun i _ => g2 i) (fun i _ => by rw [g3 i, h1]) g4
        refine m46 s10 (hF.tr g1) ?_ ((od tk).mpr hdn) ⟨_, by rw [odf]; exact nw⟩
        rcases g4 tk htk with z | z
        · rw [z.2.1]; exact ht
        · exact absurd hdn z.1
theorem x_reachGiversOf {a b giver tk K : Nat} {c f : Nat → Nat → Int} {A B r s : Nat → Int} {cur : Int} {σ : SG} {l1 : Int32} (hX : uXi a b c f A B r s) (hS : uXs a b c f A B r s σ) (h1 : l1.toInt = tk) (htk : tk < b) (ht : xT σ tk = cur) (hd : xd σ tk) (hD : uDs2 a b c f B r s giver tk 0 K cur σ) : uOk (m_X0_reachGiversOf σ l1) (fun _ q => fr1 36 40 σ q ∧ uDs2 a b c f B r s giver tk a K cur q) := by
  have a24 := hX.1
  exact x_givers2 hX hS h1 htk a FV 0 σ 0 (FV_big (by omega)) (by omega) rfl fr1.rf ht hd hD
