/-! ===== freight and share, both sides ===== -/
def pFrt (c : Nat → Nat) (P L : Nat → Nat → Int) (K : Nat → Int) (x y : Nat) (r : Int) : Prop := ∃ V, uBest (c x) (c y) (uA (P x) (L x)) (uA (P y) (L y)) (uC (K 5) (K 6) (P x) (L x) (P y) (L y)) (umin (uS (uA (P x) (L x)) (c x)) (uS (uA (P y) (L y)) (c y))) V ∧ r = K 7 * uab (uS (uA (P x) (L x)) (c x) - uS (uA (P y) (L y)) (c y)) + V
theorem pFrt.uniq {c : Nat → Nat} {P L : Nat → Nat → Int} {K : Nat → Int} {x y : Nat} {r r' : Int} (h : pFrt c P L K x y r) (h' : pFrt c P L K x y r') : r = r' := by
  obtain ⟨V, a, b⟩ := h
  obtain ⟨V', a', b'⟩ := h'
  rw [b, b', a.uniq a']
def pUn (c : Nat → Nat) (P L : Nat → Nat → Int) (x y : Nat) : Int := umin (uS (uA (P x) (L x)) (c x)) (uS (uA (P y) (L y)) (c y))
theorem uNX.xr {n : Nat} {c : Nat → Nat} {P L : Nat → Nat → Int} {σ : SG} (hB : NB n c P L) (h : uNX n c P L σ) {r : Nat} (hr : r < 8) : XRow r (P r) (L r) (c r) σ := by
  have := hB.2.1 r (by omega)
  unfold rcap at this
  rw [if_neg (by omega)] at this
  exact ⟨hr, this, h.2.1 r (by omega), fun j hj => h.2.2 r j (by omega) hj⟩
theorem uNM.mr {n : Nat} {c : Nat → Nat} {P L : Nat → Nat → Int} {σ : SG} (hB : NB n c P L) (h : uNM n c P L σ) {r : Nat} (hr : r < 8) : MRow r (P r) (L r) (c r) σ := by
  have := hB.2.1 r (by omega)
  unfold rcap at this
  rw [if_neg (by omega)] at this
  exact ⟨hr, this, h.2.1 r (by omega), fun j hj => h.2.2 r j (by omega) hj⟩
theorem NB.rs {n : Nat} {c : Nat → Nat} {P L : Nat → Nat → Int} (hB : NB n c P L) {r : Nat} (hr : r < 8) : rowS (P r) (L r) (c r) := by
  have := hB.2.1 r (by omega)
  unfold rcap at this
  rw [if_neg (by omega)] at this
  exact ⟨this, fun j hj => hB.2.2.2 r j (by omega) hj⟩
theorem uC_swap {a b : Int} {p l q m : Nat → Int} {i j : Nat} : uC a b q m p l j i = uC a b p l q m i j := by
  unfold uC uab
  have e1 : (if 0 ≤ uS m j - uS l i then uS m j - uS l i else -(uS m j - uS l i)) = (if 0 ≤ uS l i - uS m j then uS l i - uS m j else -(uS l i - uS m j)) := by split <;> split <;> omega
  have e2 : (if 0 ≤ q j - p i then q j - p i else -(q j - p i)) = (if 0 ≤ p i - q j then p i - q j else -(p i - q j)) := by split <;> split <;> omega
  rw [e1, e2]
/-- what is loaded, and what it costs -/
theorem x_frt {n : Nat} {c : Nat → Nat} {P L : Nat → Nat → Int} {K : Nat → Int} {σ : SG} {x y : Nat} (hB : NB n c P L) (hK : KB K) (hX : uNX n c P L σ) (hKX : KX K σ) (hx : x < 8) (hy : y < 8) : uOk (m_X0_load x y σ) (fun _ s => frK σ s ∧ (s.1 (208 + 0) 4).toInt = pUn c P L x y ∧ uOk (m_X0_leastCost s) (fun v s' => frK s s' ∧ pFrt c P L K x y v.toInt)) := by
  have hp := hB.rs hx
  have hq := hB.rs hy
  refine (x_load (hX.xr hB hx) (hX.xr hB hy) hp hq).mono (fun _ s ⟨f, h⟩ => ⟨f, ?_⟩)
  have hKs : KX K s := hKX.fr f.X (by decide)
  unfold pUn
  have um := umin_s (uS (uA (P x) (L x)) (c x)) (uS (uA (P y) (L y)) (c y))
  rcases h with ⟨h1, h2, h3⟩ | ⟨h1, h2, h3⟩
  · have e : umin (uS (uA (P x) (L x)) (c x)) (uS (uA (P y) (L y)) (c y)) = uS (uA (P x) (L x)) (c x) := by unfold umin; rw [if_pos h1]
    refine ⟨by rw [e]; exact h2.2.1, (x_least hK hp hq h2 h3 hKs h1).mono (fun v s' ⟨g1, V, g2, g3⟩ => ⟨g1, V, by rw [e]; exact g2, ?_⟩)⟩
    rw [g3]
    have : uab (uS (uA (P x) (L x)) (c x) - uS (uA (P y) (L y)) (c y)) = uS (uA (P y) (L y)) (c y) - uS (uA (P x) (L x)) (c x) := by unfold uab; split <;> omega
    rw [this]
  · have e : umin (uS (uA (P x) (L x)) (c x)) (uS (uA (P y) (L y)) (c y)) = uS (uA (P y) (L y)) (c y) := by unfold umin; rw [if_neg (by omega)]
    refine ⟨by rw [e]; exact h2.2.1, (x_least hK hq hp h2 h3 hKs (by omega)).mono (fun v s' ⟨g1, V, g2, g3⟩ => ⟨g1, V, ?_, ?_⟩)⟩
    · rw [e]
      refine uBest.swap ?_
      have : (fun j i => uC (K 5) (K 6) (P x) (L x) (P y) (L y) i j) = uC (K 5) (K 6) (P y) (L y) (P x) (L x) := funext fun j => funext fun i => uC_swap.symm
      rw [this]; exact g2
    · rw [g3]
      have : uab (uS (uA (P x) (L x)) (c x) - uS (uA (P y) (L y)) (c y)) = uS (uA (P x) (L x)) (c x) - uS (uA (P y) (L y)) (c y) := by unfold uab; split <;> omega
      rw [this]
def pFre (n : Nat) (c : Nat → Nat) (P L : Nat → Nat → Int) (K : Nat → Int) (a b : Int32) (r : Int64) : Prop := (¬ (isT n a ∧ isT n b) → r = -1) ∧ (isT n a ∧ isT n b → pFrt c P L K a.toInt.toNat b.toInt.toNat r.toInt)
theorem pFre.uniq {n : Nat} {c : Nat → Nat} {P L : Nat → Nat → Int} {K : Nat → Int} {a b : Int32} {r r' : Int64} (h : pFre n c P L K a b r) (h' : pFre n c P L K a b r') : r = r' := by
  by_cases q : isT n a ∧ isT n b
  · exact Int64.toInt_inj.mp ((h.2 q).uniq (h'.2 q))
  · rw [h.1 q, h'.1 q]
theorem x_freight {n : Nat} {c : Nat → Nat} {P L : Nat → Nat → Int} {K : Nat → Int} {σ : SG} {a b : Int32} (hB : NB n c P L) (hK : KB K) (hX : uNX n c P L σ) (hKX : KX K σ) : uOk (m_X11_freight σ a b) (fun r σ' => pFre n c P L K a b r ∧ frX [10] σ σ') := by
  have hn := hB.1
  obtain ⟨v, e, hv⟩ := x_isTune hX a
  obtain ⟨v2, e2, hv2⟩ := x_isTune hX b
  unfold m_X11_freight m_X11_freight_0
  rw [e, bi_some]
  refine ok_ite (fun q => ok_r ⟨⟨fun _ => rfl, fun z => absurd z.1 (hv.mp q)⟩, frX.rf⟩) (fun q => ?_)
  have ha : isT n a := Classical.not_not.mp (fun z => q (hv.mpr z))
  rw [e2, bi_some]
  refine ok_ite (fun q2 => ?_) (fun q2 => ok_r ⟨⟨fun _ => rfl, fun z => absurd z.2 (hv2.mp (Classical.not_not.mp q2))⟩, frX.rf⟩)
  have hb : isT n b := Classical.not_not.mp (fun z => q2 (hv2.mpr z))
  have ha2 := ha.2
  have hb2 := hb.2
  have ha1 := ha.1
  have hb1 := hb.1
  rw [z_nat, z_nat]
  refine ok_i (by omega) (ok_i (by omega) (ok_b (x_frt (x := a.toInt.toNat) (y := b.toInt.toNat) hB hK hX hKX (by omega) (by omega)) (fun _ s16 ⟨f16, _, h16⟩ => ok_b h16 (fun r s19 ⟨f19, h19⟩ => ok_r ⟨⟨fun z => absurd ⟨ha, hb⟩ z, fun _ => h19⟩, (f16.tr f19).X⟩))))
theorem m_frt {n : Nat} {c : Nat → Nat} {P L : Nat → Nat → Int} {K : Nat → Int} {σ : SG} {x y : Nat} {a b : Int32} (hB : NB n c P L) (hK : KB K) (hM : uNM n c P L σ) (hKM : uKM K σ) (hx : x < 8) (hy : y < 8) (ha : a.toInt = x) (hb : b.toInt = y) : uOk (m_X12_freightOf σ a b) (fun r s => frM [10] σ s ∧ (s.2.1 0 38).toInt = pUn c P L x y ∧ pFrt c P L K x y r.toInt) :=
  m_freightOf hK (hB.rs hx) (hB.rs hy) ha hb (hM.mr hB hx) (hM.mr hB hy) hKM
theorem m_freight {n : Nat} {c : Nat → Nat} {P L : Nat → Nat → Int} {K : Nat → Int} {σ : SG} {a b : Int32} (hB : NB n c P L) (hK : KB K) (hM : uNM n c P L σ) (hKM : uKM K σ) : uOk (m_X12_freight σ a b) (fun r σ' => pFre n c P L K a b r ∧ frM [11, 10] σ σ') := by
  have hn := hB.1
  obtain ⟨v, e, hv⟩ := m_isTune hM a
  have hM1 : uNM n c P L (sI σ 0 0 0) := hM.fr m_code (by decide)
  obtain ⟨v2, e2, hv2⟩ := m_isTune hM1 b
  have hM2 := hM1.fr (m_code (x := 0)) (by decide)
  have hK2 : uKM K (sI (sI σ 0 0 0) 0 0 0) := (hKM.fr m_code (by decide)).fr m_code (by decide)
  have hF : frM [11, 10] σ (sI σ 0 0 0) := m_code.wk (by simp)
  have hF2 : frM [11, 10] σ (sI (sI σ 0 0 0) 0 0 0) := hF.tr (m_code.wk (by simp))
  unfold m_X12_freight m_X12_freight_0
  rw [e, bi_some]
  refine ok_ite (fun q => ok_r ⟨⟨fun _ => rfl, fun z => absurd z.1 (hv.mp q)⟩, hF⟩) (fun q => ?_)
  have ha : isT n a := Classical.not_not.mp (fun z => q (hv.mpr z))
  rw [e2, bi_some]
  refine ok_ite (fun q2 => ok_r ⟨⟨fun _ => rfl, fun z => absurd z.2 (hv2.mp q2)⟩, hF2⟩) (fun q2 => ?_)
  have hb : isT n b := Classical.not_not.mp (fun z => q2 (hv2.mpr z))
  have ha2 := ha.2
  have hb2 := hb.2
  have ha1 := ha.1
  have hb1 := hb.1
  exact ok_b (m_frt (x := a.toInt.toNat) (y := b.toInt.toNat) hB hK hM2 hK2 (by omega) (by omega) (by omega) (by omega)) (fun r s ⟨f, _, g⟩ => ok_r ⟨⟨fun z => absurd ⟨ha, hb⟩ z, fun _ => g⟩, hF2.tr (f.wk (by simp))⟩)
/-- how share answers -/
def pShX (n : Nat) (c : Nat → Nat) (P L : Nat → Nat → Int) (K : Nat → Int) (a b : Int32) (r : Int64 ⊕ Bool) : Prop := (¬ (isT n a ∧ isT n b) ∧ r = .inr true) ∨ ((isT n a ∧ isT n b) ∧ pUn c P L a.toInt.toNat b.toInt.toNat = 0 ∧ r = .inr false) ∨ ((isT n a ∧ isT n b) ∧ pUn c P L a.toInt.toNat b.toInt.toNat ≠ 0 ∧ ∃ f u : Int64, pFrt c P L K a.toInt.toNat b.toInt.toNat f.toInt ∧ u.toInt = pUn c P L a.toInt.toNat b.toInt.toNat ∧ r = .inl ((1000 * f) / u))
def pShM (n : Nat) (c : Nat → Nat) (P L : Nat → Nat → Int) (K : Nat → Int) (a b : Int32) (r : Int64) (k : Int32) : Prop := (¬ (isT n a ∧ isT n b) ∧ k = 1) ∨ ((isT n a ∧ isT n b) ∧ pUn c P L a.toInt.toNat b.toInt.toNat = 0 ∧ k = 2) ∨ ((isT n a ∧ isT n b) ∧ pUn c P L a.toInt.toNat b.toInt.toNat ≠ 0 ∧ k = 0 ∧ ∃ f u : Int64, pFrt c P L K a.toInt.toNat b.toInt.toNat f.toInt ∧ u.toInt = pUn c P L a.toInt.toNat b.toInt.toNat ∧ r = (1000 * f) / u)
theorem x_share {n : Nat} {c : Nat → Nat} {P L : Nat → Nat → Int} {K : Nat → Int} {σ : SG} {a b : Int32} (hB : NB n c P L) (hK : KB K) (hX : uNX n c P L σ) (hKX : KX K σ) : uOk (m_X11_share σ a b) (fun r σ' => pShX n c P L K a b r ∧ frX [10] σ σ') := by
  have hn := hB.1
  obtain ⟨v, e, hv⟩ := x_isTune hX a
  obtain ⟨v2, e2, hv2⟩ := x_isTune hX b
  unfold m_X11_share m_X11_share_0 m_X11_share_16
  rw [e, bi_some]
  refine ok_ite (fun q => ok_r ⟨Or.inl ⟨fun z => absurd z.1 (hv.mp q), rfl⟩, frX.rf⟩) (fun q => ?_)
  have ha : isT n a := Classical.not_not.mp (fun z => q (hv.mpr z))
  rw [e2, bi_some]
  refine ok_ite (fun q2 => ?_) (fun q2 => ok_r ⟨Or.inl ⟨fun z => absurd z.2 (hv2.mp (Classical.not_not.mp q2)), rfl⟩, frX.rf⟩)
  have hb : isT n b := Classical.not_not.mp (fun z => q2 (hv2.mpr z))
  have ha2 := ha.2
  have hb2 := hb.2
  have ha1 := ha.1
  have hb1 := hb.1
  rw [z_nat, z_nat]
  refine ok_i (by omega) (ok_i (by omega) (ok_b (x_frt (x := a.toInt.toNat) (y := b.toInt.toNat) hB hK hX hKX (by omega) (by omega)) (fun _ s16 ⟨f16, u16, h16⟩ => ?_)))
  unfold m_X0_unitsGoing m_X0_unitsGoing_0
  rw [bi_some]
  refine ok_ite (fun q3 => ok_b h16 (fun r s23 ⟨f23, h23⟩ => ok_g ?_ (ok_r ⟨Or.inr (Or.inr ⟨⟨ha, hb⟩, fun z => q3 (z_eq.mpr (by rw [u16, z]; rfl)), r, _, h23, by rw [Int32.toInt_toInt64]; exact u16, rfl⟩), (f16.tr f23).X⟩))) (fun q3 => ok_r ⟨Or.inr (Or.inl ⟨⟨ha, hb⟩, ?_, rfl⟩), f16.X⟩)
  · unfold nzL
    rw [decide_eq_true_iff]
    intro z
    apply q3
    rw [z_eq]
    have := congrArg Int64.toInt z
    rw [Int32.toInt_toInt64] at this
    exact this
  · have q3 := Classical.not_not.mp q3
    rw [q3] at u16
    exact u16.symm
theorem lgz {x : Int64} : lg_cmp x 0 = 0 ↔ x = 0 := by
  unfold lg_cmp
  by_cases h : x > 0
  · rw [if_pos h]
    exact ⟨fun z => absurd z (by decide), fun z => by rw [z] at h; exact absurd h (by decide)⟩
  · rw [if_neg h]
    by_cases e : x = 0
    · rw [if_pos e]; exact ⟨fun _ => e, fun _ => rfl⟩
    · rw [if_neg e]; exact ⟨fun z => absurd z (by decide), fun z => absurd z e⟩
theorem m_share {n : Nat} {c : Nat → Nat} {P L : Nat → Nat → Int} {K : Nat → Int} {σ : SG} {a b : Int32} (hB : NB n c P L) (hK : KB K) (hM : uNM n c P L σ) (hKM : uKM K σ) : uOk (m_X12_share σ a b) (fun r σ' => pShM n c P L K a b r (σ'.1 0 0) ∧ frM [11, 10] σ σ') := by
  have hn := hB.1
  obtain ⟨v, e, hv⟩ := m_isTune hM a
  have hM1 : uNM n c P L (sI σ 0 0 0) := hM.fr m_code (by decide)
  obtain ⟨v2, e2, hv2⟩ := m_isTune hM1 b
  have hM2 := hM1.fr (m_code (x := 0)) (by decide)
  have hK2 : uKM K (sI (sI σ 0 0 0) 0 0 0) := (hKM.fr m_code (by decide)).fr m_code (by decide)
  have hF : frM [11, 10] σ (sI σ 0 0 0) := m_code.wk (by simp)
  have hF2 : frM [11, 10] σ (sI (sI σ 0 0 0) 0 0 0) := hF.tr (m_code.wk (by simp))
  unfold m_X12_share m_X12_share_0 m_X12_share_16
  rw [e, bi_some]
  refine ok_ite (fun q => ok_l fun s16 e16 => ok_r ⟨Or.inl ⟨fun z => absurd z.1 (hv.mp q), by rw [e16, g_sI_s]⟩, hF.tr (by rw [e16]; exact m_code.wk (by simp))⟩) (fun q => ?_)
  have ha : isT n a := Classical.not_not.mp (fun z => q (hv.mpr z))
  rw [e2, bi_some]
  refine ok_ite (fun q2 => ?_) (fun q2 => ok_l fun s16 e16 => ok_r ⟨Or.inl ⟨fun z => absurd z.2 (hv2.mp (Classical.not_not.mp q2)), by rw [e16, g_sI_s]⟩, hF2.tr (by rw [e16]; exact m_code.wk (by simp))⟩)
  have hb : isT n b := Classical.not_not.mp (fun z => q2 (hv2.mpr z))
  have ha2 := ha.2
  have hb2 := hb.2
  have ha1 := ha.1
  have hb1 := hb.1
  refine ok_b (m_frt (x := a.toInt.toNat) (y := b.toInt.toNat) hB hK hM2 hK2 (by omega) (by omega) (by omega) (by omega)) (fun r s10 ⟨f, u10, g⟩ => ?_)
  refine ok_ite (fun q3 => ok_g ?_ (ok_r ⟨Or.inr (Or.inr ⟨⟨ha, hb⟩, fun z => q3 (lgz.mpr (Int64.toInt_inj.mp (by rw [u10, z]; rfl))), ?_, r, _, g, u10, rfl⟩), hF2.tr (f.wk (by simp))⟩)) (fun q3 => ok_l fun s14 e14 => ok_r ⟨Or.inr (Or.inl ⟨⟨ha, hb⟩, ?_, by rw [e14, g_sI_s]⟩), (hF2.tr (f.wk (by simp))).tr (by rw [e14]; exact m_code.wk (by simp))⟩)
  · unfold nzL
    rw [decide_eq_true_iff]
    exact fun z => q3 (lgz.mpr z)
  · rw [f.1 0 0 (by decide), g_sI_s]
  · have q3 := lgz.mp (Classical.not_not.mp q3)
    rw [q3] at u10
    exact u10.symm
