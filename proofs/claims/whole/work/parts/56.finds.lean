/-! ===== what was found, one more: behind all that cost as much or less ===== -/
def insP (v : Nat → Nat → Int) (z : Int) : Nat → Nat
  | 0 => 0
  | k + 1 => if v k 3 ≤ z then k + 1 else insP v z k
def insV (v : Nat → Nat → Int) (w : Nat → Int) (k : Nat) : Nat → Nat → Int := fun j f => if j < insP v (w 3) k then v j f else if j = insP v (w 3) k then w f else v (j - 1) f
theorem insP_le (v : Nat → Nat → Int) (z : Int) : ∀ k, insP v z k ≤ k
  | 0 => Nat.le_refl _
  | k + 1 => by
    unfold insP
    split
    · exact Nat.le_refl _
    · exact Nat.le_succ_of_le (insP_le v z k)
def row5 (a b c d e : Int) : Nat → Int := fun f => if f = 0 then a else if f = 1 then b else if f = 2 then c else if f = 3 then d else e
def iaX (k a : Nat) (o : Nat → Nat) (V : Nat → Nat → Int) (σ : SG) : Prop := (σ.1 207 0).toInt = k ∧ (∀ j, j < a → (σ.1 27 j).toInt = o j) ∧ (∀ j, a ≤ j → j < k → (σ.1 27 (j + 1)).toInt = o j) ∧ ∀ f, f < 5 → ∀ i, i ≤ k → (σ.1 (90 + f) i).toInt = V f i
theorem x_ins {k : Nat} {o : Nat → Nat} {V v : Nat → Nat → Int} {w : Nat → Int} {l4 : Int32} (hk : k < 200) (ho : ∀ j, j < k → o j < k ∧ ∀ f, f < 5 → V f (o j) = v j f) (hw : ∀ f, f < 5 → V f k = w f) (h4 : l4.toInt = w 3) :
    ∀ (a fuel : Nat) (σ : SG) (l6 : Int32), a < fuel → a ≤ k → l6.toInt = a → insP v (w 3) k = insP v (w 3) a → iaX k a o V σ → uOk (m_X1_add_79 fuel σ l4 l6) (fun _ σ' => FdX (k + 1) (insV v w k) σ' ∧ frX [5] σ σ') := by
  have k0 : ((0 : Int32)).toInt = 0 := rfl
  have fin : ∀ (a : Nat) (σ : SG) (l6 : Int32), a ≤ k → l6.toInt = a → insP v (w 3) k = a → iaX k a o V σ → uOk (m_X1_add_127 σ l6) (fun _ σ' => FdX (k + 1) (insV v w k) σ' ∧ frX [5] σ σ') := by
    intro a σ l6 ha h6 hp hI
    obtain ⟨i1, i2, i3, i4⟩ := hI
    have hn : l6.toNatClampNeg = a := by rw [z_nat, h6]; omega
    unfold m_X1_add_127
    rw [hn]
    refine ok_i (by omega) (ok_l fun s1 e1 => ok_l fun s2 e2 => ok_r ⟨⟨?_, fun j hj => ?_⟩, ?_⟩)
    · rw [e2, g_sI_s, e1, g_sI, if_neg (by omega), z_add1 (by omega), i1]; rfl
    · have hr : ∀ (c i : Nat), c ≠ 27 → c ≠ 207 → s2.1 c i = σ.1 c i := fun c i h1 h2 => by rw [e2, g_sI, if_neg (fun z => h2 z.1), e1, g_sI, if_neg (fun z => h1 z.1)]
      have h27 : s2.1 27 j = if j = a then σ.1 207 0 else σ.1 27 j := by
        rw [e2, g_sI, if_neg (by omega), e1, g_sI]
        by_cases h : j = a
        · rw [if_pos ⟨rfl, h⟩, if_pos h]
        · rw [if_neg (fun z => h z.2), if_neg h]
      have hoo : ∃ q : Nat, (s2.1 27 j).toInt = q ∧ q < k + 1 ∧ ∀ f, f < 5 → V f q = insV v w k j f := by
        rw [h27]
        unfold insV
        rw [hp]
        by_cases hja : j = a
        · rw [if_pos hja]
          exact ⟨k, i1, by omega, fun f hf => by rw [if_neg (by omega), if_pos hja]; exact hw f hf⟩
        · rw [if_neg hja]
          by_cases hlt : j < a
          · exact ⟨o j, i2 j hlt, by have := (ho j (by omega)).1; omega, fun f hf => by rw [if_pos hlt]; exact (ho j (by omega)).2 f hf⟩
          · have h3 := i3 (j - 1) (by omega) (by omega)
            rw [show j - 1 + 1 = j by omega] at h3
            exact ⟨o (j - 1), h3, by have := (ho (j - 1) (by omega)).1; omega, fun f hf => by rw [if_neg hlt, if_neg hja]; exact (ho (j - 1) (by omega)).2 f hf⟩
      obtain ⟨q, hq1, hq2, hq3⟩ := hoo
      refine ⟨by omega, fun f hf => ?_⟩
      rw [z_nat, hq1, hr _ _ (by omega) (by omega), show (q : Int).toNat = q by omega, i4 f hf q (by omega)]
      exact hq3 f hf
    · rw [e2, e1]; exact (frX.rf.sI (k := 27) (by show (5 : Nat) ∈ _; decide)).sI (by show (5 : Nat) ∈ _; decide)
  intro a
  induction a with
  | zero =>
    intro fuel σ l6 hf ha h6 hp hI
    cases fuel with
    | zero => omega
    | succ fuel =>
      show uOk (m_X1_add_79_s _ σ l4 l6) _
      unfold m_X1_add_79_s
      exact ok_ite (fun _ => fin 0 σ l6 ha h6 hp hI) (fun q => absurd (z_le.mpr (by rw [h6, k0]; omega)) q)
  | succ a ih =>
    intro fuel σ l6 hf ha h6 hp hI
    cases fuel with
    | zero => omega
    | succ fuel =>
      show uOk (m_X1_add_79_s _ σ l4 l6) _
      unfold m_X1_add_79_s
      obtain ⟨i1, i2, i3, i4⟩ := id hI
      have e1 : (l6 - 1).toInt = a := by rw [z_sub1 (by omega), h6]; omega
      have n1 : (l6 - 1).toNatClampNeg = a := by rw [z_nat, e1]; omega
      have n6 : l6.toNatClampNeg = a + 1 := by rw [z_nat, h6]; omega
      have h2 := i2 a (by omega)
      have hoa := ho a (by omega)
      refine ok_ite (fun q => absurd (z_le.mp q) (by rw [h6, k0]; omega)) (fun _ => ok_i ⟨by decide, by decide⟩ (ok_i (by omega) ?_))
      rw [n1, n6]
      refine ok_i (by omega) ?_
      have hc : (σ.1 (90 + (3 : Int32).toNatClampNeg) (σ.1 27 a).toNatClampNeg).toInt = v a 3 := by
        rw [z_nat (σ.1 27 a), h2, show ((o a : Nat) : Int).toNat = o a by omega]
        have := i4 3 (by omega) (o a) (by omega)
        rw [hoa.2 3 (by omega)] at this
        exact this
      refine ok_ite (fun q => fin (a + 1) σ l6 ha h6 (by rw [z_le, hc, h4] at q; rw [hp]; unfold insP; rw [if_pos q]) hI) (fun q => ok_i (by omega) (ok_i (by omega) (ok_l fun s es => ok_l fun y ey => ?_)))
      refine (ih fuel s y (by omega) (by omega) (by rw [ey, z_addm1 (by omega), h6]; omega) ?_ ?_).mono (fun _ s' h => ⟨h.1, ?_⟩)
      · rw [z_le, hc, h4] at q
        rw [hp]
        show (if v a 3 ≤ w 3 then a + 1 else insP v (w 3) a) = _
        rw [if_neg q]
      · refine ⟨by rw [es, g_sI, if_neg (by omega)]; exact i1, fun j hj => ?_, fun j hj1 hj2 => ?_, fun f hf i hi => ?_⟩
        · rw [es, g_sI, if_neg (by omega)]; exact i2 j (by omega)
        · rw [es, g_sI]
          by_cases h : j = a
          · rw [if_pos (by omega), h]; exact h2
          · rw [if_neg (by omega)]; exact i3 j (by omega) hj2
        · rw [es, g_sI, if_neg (by omega)]; exact i4 f hf i hi
      · rw [es] at h
        exact (frX.rf.sI (k := 27) (by show (5 : Nat) ∈ _; decide)).tr h.2
theorem x_add {k : Nat} {v : Nat → Nat → Int} {σ : SG} {p0 p1 p2 p3 p4 : Int32} (hk : k < 200) (hX : FdX k v σ) : uOk (m_X1_add σ p0 p1 p2 p3 p4) (fun _ σ' => FdX (k + 1) (insV v (row5 p0.toInt p1.toInt p2.toInt p3.toInt p4.toInt) k) σ' ∧ frX [5] σ σ') := by
  obtain ⟨h1, h2⟩ := hX
  have hn : (σ.1 207 0).toNatClampNeg = k := by rw [z_nat, h1]; omega
  unfold m_X1_add m_X1_add_0
  refine ok_ite (fun _ => ok_i ⟨by decide, by decide⟩ (ok_i (by omega) (ok_l fun s1 e1 => ?_))) (fun q => absurd (z_lt.mpr (by rw [h1, show ((200 : Int32)).toInt = 200 from rfl]; omega)) q)
  have c1 : s1.1 207 0 = σ.1 207 0 := by rw [e1, g_sI, if_neg (fun z => absurd z.1 (by decide))]
  rw [c1]
  refine ok_i ⟨by decide, by decide⟩ (ok_i (by omega) (ok_l fun s2 e2 => ?_))
  have c2 : s2.1 207 0 = σ.1 207 0 := by rw [e2, g_sI, if_neg (fun z => absurd z.1 (by decide)), c1]
  rw [c2]
  refine ok_i ⟨by decide, by decide⟩ (ok_i (by omega) (ok_l fun s3 e3 => ?_))
  have c3 : s3.1 207 0 = σ.1 207 0 := by rw [e3, g_sI, if_neg (fun z => absurd z.1 (by decide)), c2]
  rw [c3]
  refine ok_i ⟨by decide, by decide⟩ (ok_i (by omega) (ok_l fun s4 e4 => ?_))
  have c4 : s4.1 207 0 = σ.1 207 0 := by rw [e4, g_sI, if_neg (fun z => absurd z.1 (by decide)), c3]
  rw [c4]
  refine ok_i ⟨by decide, by decide⟩ (ok_i (by omega) (ok_l fun s5 e5 => ok_l fun y ey => ?_))
  have c5 : s5.1 207 0 = σ.1 207 0 := by rw [e5, g_sI, if_neg (fun z => absurd z.1 (by decide)), c4]
  have n0 : (0 : Int32).toNatClampNeg = 0 := rfl
  have n1 : (1 : Int32).toNatClampNeg = 1 := rfl
  have n2 : (2 : Int32).toNatClampNeg = 2 := rfl
  have n3 : (3 : Int32).toNatClampNeg = 3 := rfl
  have n4 : (4 : Int32).toNatClampNeg = 4 := rfl
  rw [n0, hn] at e1
  rw [n1, hn] at e2
  rw [n2, hn] at e3
  rw [n3, hn] at e4
  rw [n4, hn] at e5
  have hF : frX [5] σ s5 := by
    rw [e5, e4, e3, e2, e1]
    exact ((((frX.rf.sI (by show (5 : Nat) ∈ _; decide)).sI (by show (5 : Nat) ∈ _; decide)).sI (by show (5 : Nat) ∈ _; decide)).sI (by show (5 : Nat) ∈ _; decide)).sI (by show (5 : Nat) ∈ _; decide)
  have h27 : ∀ j, s5.1 27 j = σ.1 27 j := fun j => by rw [e5, g_sI, if_neg (by omega), e4, g_sI, if_neg (by omega), e3, g_sI, if_neg (by omega), e2, g_sI, if_neg (by omega), e1, g_sI, if_neg (by omega)]
  have hV : ∀ f i, f < 5 → i ≠ k → s5.1 (90 + f) i = σ.1 (90 + f) i := fun f i hf hi => by rw [e5, g_sI, if_neg (by omega), e4, g_sI, if_neg (by omega), e3, g_sI, if_neg (by omega), e2, g_sI, if_neg (by omega), e1, g_sI, if_neg (by omega)]
  have hK : ∀ f, f < 5 → (s5.1 (90 + f) k).toInt = row5 p0.toInt p1.toInt p2.toInt p3.toInt p4.toInt f := fun f hf => by
    have hc : f = 0 ∨ f = 1 ∨ f = 2 ∨ f = 3 ∨ f = 4 := by omega
    rcases hc with rfl | rfl | rfl | rfl | rfl <;> simp [e5, e4, e3, e2, e1, g_sI, row5]
  refine (x_ins (o := fun j => (σ.1 27 j).toInt.toNat) (V := fun f i => (s5.1 (90 + f) i).toInt) (v := v) (w := row5 p0.toInt p1.toInt p2.toInt p3.toInt p4.toInt) hk (fun j hj => ?_) hK rfl k FV s5 y (FV_big (by omega)) (Nat.le_refl _) (by rw [ey, c5, h1]) rfl ⟨by rw [c5]; exact h1, fun j hj => ?_, fun j h3 h4 => by omega, fun f hf i hi => rfl⟩).mono (fun _ s h => ⟨h.1, hF.tr h.2⟩)
  · have := (h2 j hj).1
    refine ⟨by show (σ.1 27 j).toInt.toNat < k; omega, fun f hf => ?_⟩
    show (s5.1 (90 + f) ((σ.1 27 j).toInt.toNat)).toInt = _
    rw [hV f _ hf (by omega)]
    exact (h2 j hj).2 f hf
  · have := (h2 j hj).1
    rw [h27]
    show _ = (((σ.1 27 j).toInt.toNat : Nat) : Int)
    omega
def iaM (k a : Nat) (v : Nat → Nat → Int) (σ : SG) : Prop := (σ.1 0 25).toInt = k ∧ (∀ j, j < a → ∀ f, f < 5 → (σ.1 10 (5 * j + f)).toInt = v j f) ∧ (∀ j, a ≤ j → j < k → ∀ f, f < 5 → (σ.1 10 (5 * (j + 1) + f)).toInt = v j f)
theorem g_sA {σ : SG} {k k' i' : Nat} {f : Nat → Int32} : (sA σ k f).1 k' i' = if k' = k then f i' else σ.1 k' i' := by
  unfold sA va_up
  by_cases h : k' = k <;> simp [h]
theorem frM.sA {G : List Nat} {σ σ1 : SG} {k : Nat} {f : Nat → Int32} (h : frM G σ σ1) (q : ∀ i, rgM k i ∈ G) : frM G σ (sA σ1 k f) :=
  ⟨fun k' i' z => by
    rw [g_sA]
    split
    · rename_i y
      rw [y] at z
      exact absurd (q i') z
    · exact h.1 k' i' z, h.2.1, h.2.2⟩
theorem z_lit {n : Nat} (h : n < 2147483648) : (OfNat.ofNat n : Int32).toInt = n := Int32.toInt_ofNat_of_lt h
theorem m_ins {k : Nat} {v : Nat → Nat → Int} {l1 l2 l3 l4 l5 : Int32} (hk : k < 200) :
    ∀ (a fuel : Nat) (σ : SG) (l6 : Int32), a < fuel → a ≤ k → l6.toInt = a → insP v l4.toInt k = insP v l4.toInt a → iaM k a v σ → uOk (m_X12_find_6 fuel σ l1 l2 l3 l4 l5 l6) (fun _ σ' => FdM (k + 1) (insV v (row5 l1.toInt l2.toInt l3.toInt l4.toInt l5.toInt) k) σ' ∧ frM [5] σ σ') := by
  have k0 : ((0 : Int32)).toInt = 0 := rfl
  have k5 : ((5 : Int32)).toInt = 5 := rfl
  have kk1 : ((1 : Int32)).toInt = 1 := rfl
  have kk2 : ((2 : Int32)).toInt = 2 := rfl
  have kk3 : ((3 : Int32)).toInt = 3 := rfl
  have kk4 : ((4 : Int32)).toInt = 4 := rfl
  have fin : ∀ (a : Nat) (σ : SG) (l6 : Int32), a ≤ k → l6.toInt = a → insP v l4.toInt k = a → iaM k a v σ → uOk (m_X12_find_57 σ l1 l2 l3 l4 l5 l6) (fun _ σ' => FdM (k + 1) (insV v (row5 l1.toInt l2.toInt l3.toInt l4.toInt l5.toInt) k) σ' ∧ frM [5] σ σ') := by
    intro a σ l6 ha h6 hp hI
    obtain ⟨i1, i2, i3⟩ := hI
    have h0 : (5 * l6).toInt = 5 * a := by rw [z_mul] <;> rw [k5, h6] <;> omega
    have h1 : (5 * l6 + 1).toInt = 5 * a + 1 := by rw [z_add] <;> rw [h0, kk1] <;> omega
    have h2 : (5 * l6 + 2).toInt = 5 * a + 2 := by rw [z_add] <;> rw [h0, kk2] <;> omega
    have h3 : (5 * l6 + 3).toInt = 5 * a + 3 := by rw [z_add] <;> rw [h0, kk3] <;> omega
    have h4 : (5 * l6 + 4).toInt = 5 * a + 4 := by rw [z_add] <;> rw [h0, kk4] <;> omega
    have n0 : (5 * l6).toNatClampNeg = 5 * a := by rw [z_nat, h0]; omega
    have n1 : (5 * l6 + 1).toNatClampNeg = 5 * a + 1 := by rw [z_nat, h1]; omega
    have n2 : (5 * l6 + 2).toNatClampNeg = 5 * a + 2 := by rw [z_nat, h2]; omega
    have n3 : (5 * l6 + 3).toNatClampNeg = 5 * a + 3 := by rw [z_nat, h3]; omega
    have n4 : (5 * l6 + 4).toNatClampNeg = 5 * a + 4 := by rw [z_nat, h4]; omega
    unfold m_X12_find_57
    rw [n0, n1, n2, n3, n4]
    refine ok_i (by omega) (ok_l fun s1 e1 => ok_i (by omega) (ok_l fun s2 e2 => ok_i (by omega) (ok_l fun s3 e3 => ok_i (by omega) (ok_l fun s4 e4 => ok_i (by omega) (ok_l fun s5 e5 => ok_l fun s6 e6 => ok_r ⟨⟨?_, fun j hj f hf => ?_⟩, ?_⟩)))))
    · have c5 : s5.1 0 25 = σ.1 0 25 := by rw [e5, g_sI, if_neg (by omega), e4, g_sI, if_neg (by omega), e3, g_sI, if_neg (by omega), e2, g_sI, if_neg (by omega), e1, g_sI, if_neg (by omega)]
      rw [e6, g_sI_s, c5, z_add1 (by omega), i1]; rfl
    · unfold insV
      show _ = if j < insP v l4.toInt k then _ else if j = insP v l4.toInt k then _ else _
      rw [hp]
      have hs6 : s6.1 10 (5 * j + f) = s5.1 10 (5 * j + f) := by rw [e6, g_sI, if_neg (by omega)]
      rw [hs6]
      by_cases hja : j = a
      · rw [if_neg (by omega), if_pos hja, hja]
        have hc : f = 0 ∨ f = 1 ∨ f = 2 ∨ f = 3 ∨ f = 4 := by omega
        rcases hc with rfl | rfl | rfl | rfl | rfl <;> simp [e5, e4, e3, e2, e1, g_sI, row5]
      · have ho : s5.1 10 (5 * j + f) = σ.1 10 (5 * j + f) := by rw [e5, g_sI, if_neg (by omega), e4, g_sI, if_neg (by omega), e3, g_sI, if_neg (by omega), e2, g_sI, if_neg (by omega), e1, g_sI, if_neg (by omega)]
        rw [ho]
        by_cases hlt : j < a
        · rw [if_pos hlt]; exact i2 j hlt f hf
        · rw [if_neg hlt, if_neg hja]
          have := i3 (j - 1) (by omega) (by omega) f hf
          rw [show j - 1 + 1 = j by omega] at this
          exact this
    · rw [e6, e5, e4, e3, e2, e1]
      exact (((((frM.rf.sI (by show (5 : Nat) ∈ _; decide)).sI (by show (5 : Nat) ∈ _; decide)).sI (by show (5 : Nat) ∈ _; decide)).sI (by show (5 : Nat) ∈ _; decide)).sI (by show (5 : Nat) ∈ _; decide)).sI (by show (5 : Nat) ∈ _; decide)
  intro a
  induction a with
  | zero =>
    intro fuel σ l6 hf ha h6 hp hI
    cases fuel with
    | zero => omega
    | succ fuel =>
      show uOk (m_X12_find_6_s _ σ l1 l2 l3 l4 l5 l6) _
      unfold m_X12_find_6_s
      exact ok_ite (fun _ => fin 0 σ l6 ha h6 hp hI) (fun q => absurd (z_le.mpr (by rw [h6, k0]; omega)) q)
  | succ a ih =>
    intro fuel σ l6 hf ha h6 hp hI
    cases fuel with
    | zero => omega
    | succ fuel =>
      show uOk (m_X12_find_6_s _ σ l1 l2 l3 l4 l5 l6) _
      unfold m_X12_find_6_s
      obtain ⟨i1, i2, i3⟩ := id hI
      have e1 : (l6 - 1).toInt = a := by rw [z_sub1 (by omega), h6]; omega
      have h5 : (5 * (l6 - 1)).toInt = 5 * a := by rw [z_mul] <;> rw [k5, e1] <;> omega
      have h53 : (5 * (l6 - 1) + 3).toInt = 5 * a + 3 := by rw [z_add] <;> rw [h5, kk3] <;> omega
      have h56 : (5 * l6).toInt = 5 * (a + 1) := by rw [z_mul] <;> rw [k5, h6] <;> omega
      have n5 : (5 * (l6 - 1)).toNatClampNeg = 5 * a := by rw [z_nat, h5]; omega
      have n53 : (5 * (l6 - 1) + 3).toNatClampNeg = 5 * a + 3 := by rw [z_nat, h53]; omega
      have n56 : (5 * l6).toNatClampNeg = 5 * (a + 1) := by rw [z_nat, h56]; omega
      have nn5 : (5 : Int32).toNatClampNeg = 5 := rfl
      rw [n53]
      have hc := i2 a (by omega) 3 (by omega)
      refine ok_ite (fun q => absurd (z_le.mp q) (by rw [h6, k0]; omega)) (fun _ => ok_i (by omega) (ok_ite (fun q => fin (a + 1) σ l6 ha h6 (by rw [z_le, hc] at q; rw [hp]; unfold insP; rw [if_pos q]) hI) (fun q => ok_g ?_ (ok_l fun s es => ok_l fun y ey => ?_))))
      · unfold cpB
        rw [decide_eq_true_iff, n5, n56, nn5, z_lt, z_lt, z_lt, h5, h56, k0, k5]
        omega
      · rw [n5, n56, nn5] at es
        refine (ih fuel s y (by omega) (by omega) (by rw [ey, z_addm1 (by omega), h6]; omega) ?_ ?_).mono (fun _ s' h => ⟨h.1, ?_⟩)
        · rw [z_le, hc] at q
          rw [hp]
          show (if v a 3 ≤ l4.toInt then a + 1 else insP v l4.toInt a) = _
          rw [if_neg q]
        · refine ⟨by rw [es, g_sA, if_neg (by omega)]; exact i1, fun j hj f hf => ?_, fun j hj1 hj2 f hf => ?_⟩
          · rw [es, g_sA, if_pos rfl]
            unfold va_cpy
            rw [if_neg (by omega)]
            exact i2 j (by omega) f hf
          · rw [es, g_sA, if_pos rfl]
            unfold va_cpy
            by_cases h : j = a
            · rw [if_pos (by omega), show 5 * a + (5 * (j + 1) + f - 5 * (a + 1)) = 5 * a + f by omega, h]
              exact i2 a (by omega) f hf
            · rw [if_neg (by omega)]
              exact i3 j (by omega) hj2 f hf
        · rw [es] at h
          exact (frM.rf.sA (k := 10) (fun i => by show (5 : Nat) ∈ _; decide)).tr h.2
theorem m_find1 {k : Nat} {v : Nat → Nat → Int} {σ : SG} {p0 p1 p2 p3 p4 : Int32} (hk : k < 200) (hX : FdM k v σ) : uOk (m_X12_find σ p0 p1 p2 p3 p4) (fun _ σ' => FdM (k + 1) (insV v (row5 p0.toInt p1.toInt p2.toInt p3.toInt p4.toInt) k) σ' ∧ frM [5] σ σ') := by
  unfold m_X12_find m_X12_find_0
  exact ok_l fun y ey => m_ins hk k FV σ y (FV_big (by omega)) (Nat.le_refl _) (by rw [ey]; exact hX.1) rfl ⟨hX.1, fun j hj => hX.2 j hj, fun j h1 h2 => by omega⟩
