/-! ===== all units of all givers go: the class's freight ===== -/
theorem x_sendAll2 {a b giver : Nat} {c : Nat → Nat → Int} {A B : Nat → Int} {σ0 : SG} {l1 : Int32} (hg : giver < a) (h1 : l1.toInt = giver) (hAB : uS A a ≤ uS B b) :
    ∀ (d fuel rd : Nat) (σ : SG) (f : Nat → Nat → Int) (r s : Nat → Int) (l2 : Int32), d < fuel → rd + d = 64 → l2.toInt = rd → frQ σ0 σ → uXi a b c f A B r s → uXs a b c f A B r s σ → A giver - uS (f giver) b + rd ≤ 64 → (∀ k, k < giver → uS (f k) b = A k) → uOk (m_X0_sendAll_2 fuel σ l1 l2) (fun _ q => frQ σ0 q ∧ ∃ f r s, uXi a b c f A B r s ∧ uXs a b c f A B r s q ∧ ∀ k, k < giver + 1 → uS (f k) b = A k) := by
  have k64 : ((64 : Int32)).toInt = 64 := rfl
  have k0 : ((0 : Int32)).toInt = 0 := rfl
  intro d
  induction d with
  | zero =>
    intro fuel rd σ f r s l2 hf hd h2 hF hX hS hl hk
    cases fuel with
    | zero => omega
    | succ fuel =>
      show uOk (m_X0_sendAll_2_s _ σ l1 l2) _
      unfold m_X0_sendAll_2_s
      refine ok_ite (fun _ => ok_r ⟨hF, f, r, s, hX, hS, fun k hk' => ?_⟩) (fun q => absurd (z_le.mpr (by rw [k64, h2]; omega)) q)
      have := hX.2.2.2.2.1 giver hg
      by_cases e : k = giver
      · rw [e]; omega
      · exact hk k (by omega)
  | succ d ih =>
    intro fuel rd σ f r s l2 hf hd h2 hF hX hS hl hk
    cases fuel with
    | zero => omega
    | succ fuel =>
      obtain ⟨x1, x2, x3, x4, x5, x6, x7, x8, x9, x10, x11⟩ := id hX
      obtain ⟨s1, s2, s3, s4, s5⟩ := id hS
      have lg := (s4 giver hg).2
      have a5 := x5 giver hg
      show uOk (m_X0_sendAll_2_s _ σ l1 l2) _
      unfold m_X0_sendAll_2_s
      rw [z_nv h1]
      refine ok_ite (fun q => absurd (z_le.mp q) (by rw [k64, h2]; omega)) (fun _ => ok_i (by omega) (ok_ite (fun q => ok_r ⟨hF, f, r, s, hX, hS, fun k hk' => ?_⟩) (fun q => ?_)))
      · rw [z_le, lg, k0] at q
        by_cases e : k = giver
        · rw [e]; omega
        · exact hk k (by omega)
      · rw [z_le, lg, k0] at q
        obtain ⟨j, hj, oj⟩ : ∃ j, j < b ∧ uS (fun i => f i j) a < B j := by
          have t1 := uS_comm (f := f) b a
          have t2 : 0 < uS (fun i => A i - uS (f i) b) a := by
            have := uS_ge (f := fun i => A i - uS (f i) b) a giver (fun i hi => by show 0 ≤ A i - uS (f i) b; have := x5 i hi; omega) hg
            have : A giver - uS (f giver) b ≤ uS (fun i => A i - uS (f i) b) a := this
            omega
          rw [uS_sub] at t2
          obtain ⟨j, hj, z⟩ := uS_pos (f := fun j => B j - uS (fun i => f i j) a) b (by rw [uS_sub]; omega)
          exact ⟨j, hj, by omega⟩
        refine ok_b (x_nearestOpen hX hS ⟨j, hj, oj⟩ hg h1) (fun v4 s5' ⟨f5, tk, hv, hN⟩ => ?_)
        have hS5 := hS.Y ⟨x1, x2⟩ f5
        refine ok_ite (fun _ => ?_) (fun z => ?_)
        · have tkb := hN.1
          rw [z_nv hv]
          refine ok_i (by omega) (ok_b (x_changeRates hX hS5 hN rfl) (fun _ s10 ⟨f10, r', s', hX', hS', hti⟩ => ?_))
          have lg5 := (hS5.2.2.2.1 giver hg).2
          have lt5 := (hS5.2.2.2.2 tk tkb).2
          refine ok_b (x_amount (A := A) x1 x2 hN f10 (fun i j hi hj => (hS5.2.2.1 i j hi hj).2) h1 hv lg5 lt5 (by omega)) (fun v12 s13 ⟨e13, w0, w1, w2, S, i0, hi0, hW0, hPS, h0⟩ => ?_)
          rw [e13]
          refine ok_b (x_send hX' hS' hN f10 hti h1 hv w0 w1 w2 hi0 hW0 hPS h0) (fun _ s16 ⟨f16, f', hX'', hS'', hrow⟩ => ok_l fun v18 e18 => ih fuel (rd + 1) s16 f' r' s' v18 (by omega) (by omega) (by rw [e18, z_add1 (by omega), h2]; rfl) ((hF.tr f5.Q).tr (frQ.tr ⟨fun k i z => f10.1 k i (by omega) (by omega), f10.2⟩ f16)) hX'' hS'' ?_ (fun k hk' => ?_))
          · rw [hrow giver hg, if_pos rfl]; omega
          · rw [hrow k (by omega), if_neg (by omega), Int.add_zero]; exact hk k hk'
        · have z := Classical.not_not.mp z
          rw [z] at hv
          have hv : (-1 : Int) = tk := hv
          omega
theorem x_sendAll {a b giver : Nat} {c f : Nat → Nat → Int} {A B r s : Nat → Int} {σ : SG} {l1 : Int32} (hg : giver < a) (h1 : l1.toInt = giver) (hAB : uS A a ≤ uS B b) (hX : uXi a b c f A B r s) (hS : uXs a b c f A B r s σ) (hk : ∀ k, k < giver → uS (f k) b = A k) : uOk (m_X0_sendAll σ l1) (fun _ q => frQ σ q ∧ ∃ f r s, uXi a b c f A B r s ∧ uXs a b c f A B r s q ∧ ∀ k, k < giver + 1 → uS (f k) b = A k) := by
  have := hX.2.2.2.2.1 giver hg
  have := uS_nn (f := f giver) b (fun j hj => hX.2.2.2.1 giver j hg hj)
  exact x_sendAll2 hg h1 hAB 64 FV 0 σ f r s 0 (FV_big (by omega)) (by omega) rfl frQ.rf hX hS (by omega) hk
theorem x_cost70 {a b g : Nat} {c f : Nat → Nat → Int} {A B r s : Nat → Int} {σ : SG} {l4 : Int32} {acc : Int} {c55 : SG → Int64 → Int32 → Option (Int64 × SG)} {Q : Int64 → SG → Prop} (hX : uXi a b c f A B r s) (hS : uXs a b c f A B r s σ) (hg : g < a) (h4 : l4.toInt = g) (ha : 0 ≤ acc ∧ acc ≤ 10000000000)
    (kk : ∀ (l2 : Int64) (v : Int32), l2.toInt = acc + uS (fun j => c g j * f g j) b → v.toInt = (g + 1 : Nat) → uOk (c55 σ l2 v) Q) :
    ∀ (d fuel j : Nat) (l2 : Int64) (l5 : Int32), d < fuel → j + d = b → l5.toInt = j → l2.toInt = acc + uS (fun j => c g j * f g j) j → uOk (m_X0_leastCost_70 c55 fuel σ l2 l4 l5) Q := by
  obtain ⟨x1, x2, x3, x4, x5, x6, x7, x8, x9, x10, x11⟩ := hX
  obtain ⟨s1, s2, s3, s4, s5⟩ := hS
  have bd : ∀ j, j < b → 0 ≤ c g j * f g j ∧ c g j * f g j ≤ 128000000 := fun j hj => by
    have y1 := x3 g j hg hj
    have y2 := x4 g j hg hj
    have y3 := uS_ge b j (fun j hj => x4 g j hg hj) hj
    have y4 := x5 g hg
    have m1 := Int.mul_nonneg y1.1 y2
    have m2 : c g j * f g j ≤ 2000000 * 64 := Int.mul_le_mul y1.2 (by omega) y2 (by omega)
    omega
  intro d
  induction d with
  | zero =>
    intro fuel j l2 l5 hf hd h5 h2
    cases fuel with
    | zero => omega
    | succ fuel =>
      show uOk (m_X0_leastCost_70_s c55 _ σ l2 l4 l5) Q
      unfold m_X0_leastCost_70_s
      refine ok_ite (fun _ => ok_l fun v15 e15 => kk l2 v15 (by rw [h2, show j = b by omega]) (by rw [e15, z_add1 (by omega), h4]; rfl)) (fun q => absurd (z_le.mpr (by rw [s2, h5]; omega)) q)
  | succ d ih =>
    intro fuel j l2 l5 hf hd h5 h2
    cases fuel with
    | zero => omega
    | succ fuel =>
      have hj : j < b := by omega
      have b1 := bd j hj
      have b2 := uS_nn (f := fun j => c g j * f g j) j (fun k hk => (bd k (by omega)).1)
      have b3 := uS_bd (f := fun j => c g j * f g j) (b := 128000000) j (fun k hk => (bd k (by omega)).2)
      show uOk (m_X0_leastCost_70_s c55 _ σ l2 l4 l5) Q
      unfold m_X0_leastCost_70_s
      rw [z_nv h4, z_nv h5]
      refine ok_ite (fun q => absurd (z_le.mp q) (by rw [s2, h5]; omega)) (fun _ => ok_i (by omega) (ok_i (by omega) (ok_i (by omega) (ok_i (by omega) (ok_l fun v23 e23 => ok_l fun v25 e25 => ih fuel (j + 1) v23 v25 (by omega) (by omega) (by rw [e25, z_add1 (by omega), h5]; rfl) ?_)))))
      have e1 : ((σ.1 (95 + g) j).toInt64 * (σ.1 (119 + g) j).toInt64).toInt = c g j * f g j := j_mul (by rw [Int32.toInt_toInt64]; exact (s3 g j hg hj).1) (by rw [Int32.toInt_toInt64]; exact (s3 g j hg hj).2) (by omega) (by omega)
      rw [e23, j_add h2 e1 (by omega) (by omega)]
      show _ = acc + (uS (fun j => c g j * f g j) j + c g j * f g j)
      omega
theorem x_cost55 {a b : Nat} {c f : Nat → Nat → Int} {A B r s : Nat → Int} {σ : SG} {acc : Int} (hX : uXi a b c f A B r s) (hS : uXs a b c f A B r s σ) (ha : 0 ≤ acc ∧ acc ≤ 2000000) :
    ∀ (d fuel g : Nat) (l2 : Int64) (l4 : Int32), d < fuel → g + d = a → l4.toInt = g → l2.toInt = acc + uS (fun i => uS (fun j => c i j * f i j) b) g → uOk (m_X0_leastCost_55 fuel σ l2 l4) (fun v q => q = σ ∧ v.toInt = acc + uCt a b c f) := by
  obtain ⟨x1, x2, x3, x4, x5, x6, x7, x8, x9, x10, x11⟩ := id hX
  have s1 := hS.1
  have bd : ∀ i, i < a → 0 ≤ uS (fun j => c i j * f i j) b ∧ uS (fun j => c i j * f i j) b ≤ 128000000 := fun i hi => by
    have y1 := uS_nn (f := fun j => c i j * f i j) b (fun j hj => Int.mul_nonneg (x3 i j hi hj).1 (x4 i j hi hj))
    have y2 : uS (fun j => c i j * f i j) b ≤ uS (fun j => 2000000 * f i j) b := uS_le b (fun j hj => Int.mul_le_mul_of_nonneg_right (x3 i j hi hj).2 (x4 i j hi hj))
    rw [uS_mul] at y2
    have := x5 i hi
    omega
  intro d
  induction d with
  | zero =>
    intro fuel g l2 l4 hf hd h4 h2
    cases fuel with
    | zero => omega
    | succ fuel =>
      show uOk (m_X0_leastCost_55_s _ σ l2 l4) _
      unfold m_X0_leastCost_55_s
      exact ok_ite (fun _ => ok_r ⟨rfl, by rw [h2, show g = a by omega]; rfl⟩) (fun q => absurd (z_le.mpr (by rw [s1, h4]; omega)) q)
  | succ d ih =>
    intro fuel g l2 l4 hf hd h4 h2
    cases fuel with
    | zero => omega
    | succ fuel =>
      have b2 := uS_nn (f := fun i => uS (fun j => c i j * f i j) b) g (fun k hk => (bd k (by omega)).1)
      have b3 := uS_bd (f := fun i => uS (fun j => c i j * f i j) b) (b := 128000000) g (fun k hk => (bd k (by omega)).2)
      show uOk (m_X0_leastCost_55_s _ σ l2 l4) _
      unfold m_X0_leastCost_55_s
      refine ok_ite (fun q => absurd (z_le.mp q) (by rw [s1, h4]; omega)) (fun _ => ?_)
      refine x_cost70 (acc := acc + uS (fun i => uS (fun j => c i j * f i j) b) g) hX hS (by omega) h4 (by omega) (fun l2' v e1 e2 => ih fuel (g + 1) l2' v (by omega) (by omega) e2 ?_) b FV 0 l2 0 (FV_big (by omega)) (by omega) rfl (by rw [h2]; show _ = acc + uS (fun i => uS (fun j => c i j * f i j) b) g + 0; omega)
      rw [e1]
      show _ = acc + (uS (fun i => uS (fun j => c i j * f i j) b) g + uS (fun j => c g j * f g j) b)
      omega
theorem x_cost7 {a b : Nat} {c : Nat → Nat → Int} {A B K : Nat → Int} {ua ub : Int} {σ0 : SG} (hAB : uS A a ≤ uS B b) (hK : KB K) (hK0 : KX K σ0) (u0 : 0 ≤ ua ∧ ua ≤ ub ∧ ub ≤ 1536) :
    ∀ (d fuel g : Nat) (σ : SG) (f : Nat → Nat → Int) (r s : Nat → Int) (l2 : Int32), d < fuel → g + d = a → l2.toInt = g → frK σ0 σ → (σ.1 (208 + 0) 4).toInt = ua → (σ.1 (208 + 1) 4).toInt = ub → uXi a b c f A B r s → uXs a b c f A B r s σ → (∀ k, k < g → uS (f k) b = A k) → uOk (m_X0_leastCost_7 fuel σ l2) (fun v q => frK σ0 q ∧ ∃ f r s, uXi a b c f A B r s ∧ (∀ k, k < a → uS (f k) b = A k) ∧ v.toInt = K 7 * (ub - ua) + uCt a b c f) := by
  intro d
  induction d with
  | zero =>
    intro fuel g σ f r s l2 hf hd h2 hF hua hub hX hS hk
    cases fuel with
    | zero => omega
    | succ fuel =>
      have s1 := hS.1
      have k7 := hK 7 (by omega)
      have p7 : (σ.1 18 (7 : Int32).toNatClampNeg).toInt = K 7 := by show (σ.1 18 7).toInt = K 7; rw [hF.1 _ _ (by omega)]; exact hK0 7 (by omega)
      have pm1 : 0 ≤ K 7 * (ub - ua) := Int.mul_nonneg (by omega) (by omega)
      have pm2 : K 7 * (ub - ua) ≤ 1000 * 1536 := Int.mul_le_mul (by omega) (by omega) (by omega) (by omega)
      show uOk (m_X0_leastCost_7_s _ σ l2) _
      unfold m_X0_leastCost_7_s
      refine ok_ite (fun _ => ok_g rfl (ok_l fun v6 e6 => ?_)) (fun q => absurd (z_le.mpr (by rw [s1, h2]; omega)) q)
      have h6 : v6.toInt = K 7 * (ub - ua) := by
        rw [e6]
        exact j_mul (by rw [Int32.toInt_toInt64]; exact p7) (by rw [Int32.toInt_toInt64]; exact z_subv hub hua (by omega) (by omega)) (by omega) (by omega)
      have a24 := hX.1
      refine (x_cost55 (acc := K 7 * (ub - ua)) hX hS (by omega) a FV 0 v6 0 (FV_big (by omega)) (by omega) rfl (by rw [h6]; show _ = K 7 * (ub - ua) + 0; omega)).mono (fun v q ⟨e1, e2⟩ => ⟨by rw [e1]; exact hF, f, r, s, hX, fun k hk' => hk k (by omega), e2⟩)
  | succ d ih =>
    intro fuel g σ f r s l2 hf hd h2 hF hua hub hX hS hk
    cases fuel with
    | zero => omega
    | succ fuel =>
      have s1 := hS.1
      have a24 := hX.1
      show uOk (m_X0_leastCost_7_s _ σ l2) _
      unfold m_X0_leastCost_7_s
      refine ok_ite (fun q => absurd (z_le.mp q) (by rw [s1, h2]; omega)) (fun _ => ok_b (x_sendAll (show g < a by omega) h2 hAB hX hS hk) (fun _ s9 ⟨f9, f', r', s', hX', hS', hk'⟩ => ok_l fun v11 e11 => ih fuel (g + 1) s9 f' r' s' v11 (by omega) (by omega) (by rw [e11, z_add1 (by omega), h2]; rfl) (hF.tr f9.K) (by rw [f9.1 _ _ (by omega)]; exact hua) (by rw [f9.1 _ _ (by omega)]; exact hub) hX' hS' hk'))
