/-! ===== distance ===== -/
def wd (c : Nat → Nat) (P L : Nat → Nat → Int) (K : Nat → Int) (x y : Nat) (s : Int) : WD := ((c x, c y), (P x, L x), (P y, L y), K, s)
theorem wd_B {n : Nat} {c : Nat → Nat} {P L : Nat → Nat → Int} {K : Nat → Int} {x y : Nat} {s : Int} (hB : NB n c P L) (hK : KB K) (hx : x < 9) (hy : y < 9) (h1 : -24 ≤ s) (h2 : s ≤ 24) : WB (wd c P L K x y s) := by
  have hc : ∀ r, r < 9 → c r ≤ 24 := fun r hr => by have := hB.2.1 r hr; unfold rcap at this; split at this <;> omega
  exact ⟨hc x hx, hc y hy, fun i hi => hB.2.2.2 x i hx hi, fun j hj => hB.2.2.2 y j hy hj, hK, h1, h2⟩
theorem wd_M {n : Nat} {c : Nat → Nat} {P L : Nat → Nat → Int} {K : Nat → Int} {x y : Nat} {s : Int} {σ : SG} (hM : uNM n c P L σ) (hK : uKM K σ) (hx : x < 9) (hy : y < 9) : WMd (wd c P L K x y s) (24 * x) (24 * y) σ :=
  ⟨by omega, by omega, fun i hi => hM.2.2 x i hx hi, fun j hj => hM.2.2 y j hy hj, hK⟩
/-- the least cost of the ways through both whole rows -/
def Dis (d : WD) (v : Int) : Prop := IsMin (Pth d 0 0 (wn d) (wm d)) v
theorem Dis.b {d : WD} (hB : WB d) {v : Int} (h : Dis d v) : 0 ≤ v ∧ v ≤ 3072000 := TI.b hB (by omega) (by omega) h
theorem m_distOf {n : Nat} {c : Nat → Nat} {P L : Nat → Nat → Int} {K : Nat → Int} {x y : Nat} {σ : SG} {p0 p1 p2 : Int32} (hB : NB n c P L) (hK : KB K) (hM : uNM n c P L σ) (hKM : uKM K σ) (hx : x < 9) (hy : y < 9) (h0 : p0.toInt = x) (h1 : p1.toInt = y) (s1 : -24 ≤ p2.toInt) (s2 : p2.toInt ≤ 24) : uOk (m_X12_distanceOf σ p0 p1 p2) (fun v σ' => frM [9] σ σ' ∧ Dis (wd c P L K x y p2.toInt) v.toInt) := by
  have kn : ((24 : Int32)).toInt = 24 := rfl
  have hW := wd_B (x := x) (y := y) (s := p2.toInt) hB hK hx hy s1 s2
  unfold m_X12_distanceOf m_X12_distanceOf_0
  rw [z_nv h0, z_nv h1]
  refine ok_i (by omega) (ok_i (by omega) (ok_b (Q := fun _ σ' => frM [9] σ σ' ∧ Dis (wd c P L K x y p2.toInt) (Tm σ' 0 0)) ?_ (fun _ s h => ok_i ⟨by decide, by decide⟩ (ok_r ⟨h.1, h.2⟩))))
  unfold m_X12_ways m_X12_ways_0
  have e1 : (24 * p0).toInt = (24 * x : Nat) := by rw [z_mulv kn h0 (by omega) (by omega)]; omega
  have e2 : (24 * p1).toInt = (24 * y : Nat) := by rw [z_mulv kn h1 (by omega) (by omega)]; omega
  have h3 := hM.2.1 x hx
  have h4 := hM.2.1 y hy
  have b := hW.1
  refine m_w7 hW (c x + 1) FV σ (σ.1 3 x) (wd_M hM hKM hx hy) (FV_big (by have : c x ≤ 24 := b; omega)) e1 h3 e2 h4 rfl rfl (by rw [h3]; omega) (Nat.le_refl _) (fun a b ha _ h => ?_)
  have : a ≤ c x := ha
  omega
/-- the answer of distance -/
def pDist (n : Nat) (c : Nat → Nat) (P L : Nat → Nat → Int) (K : Nat → Int) (a b s : Int32) (r : Int32) : Prop :=
  (¬ (isT n a ∧ isT n b) → r = -1) ∧ (isT n a ∧ isT n b → (s.toInt < -24 ∨ 24 < s.toInt → r = -2) ∧ (¬ (s.toInt < -24 ∨ 24 < s.toInt) → Dis (wd c P L K a.toInt.toNat b.toInt.toNat s.toInt) r.toInt))
theorem pDist.uniq {n : Nat} {c : Nat → Nat} {P L : Nat → Nat → Int} {K : Nat → Int} {a b s r r' : Int32} (h : pDist n c P L K a b s r) (h' : pDist n c P L K a b s r') : r = r' := by
  by_cases q : isT n a ∧ isT n b
  · by_cases q2 : s.toInt < -24 ∨ 24 < s.toInt
    · rw [(h.2 q).1 q2, (h'.2 q).1 q2]
    · exact z_eq.mpr (((h.2 q).2 q2).uniq ((h'.2 q).2 q2))
  · rw [h.1 q, h'.1 q]
theorem m_distance {n : Nat} {c : Nat → Nat} {P L : Nat → Nat → Int} {K : Nat → Int} {σ : SG} {a b s : Int32} (hB : NB n c P L) (hK : KB K) (hM : uNM n c P L σ) (hKM : uKM K σ) : uOk (m_X12_distance σ a b s) (fun r σ' => pDist n c P L K a b s r ∧ frM [11, 9] σ σ') := by
  have hn := hB.1
  obtain ⟨v, e, hv⟩ := m_isTune hM a
  have hM1 : uNM n c P L (sI σ 0 0 0) := hM.fr m_code (by decide)
  obtain ⟨v2, e2, hv2⟩ := m_isTune hM1 b
  have hM2 := hM1.fr (m_code (x := 0)) (by decide)
  have hK2 : uKM K (sI (sI σ 0 0 0) 0 0 0) := (hKM.fr m_code (by decide)).fr m_code (by decide)
  have hF : frM [11, 9] σ (sI σ 0 0 0) := m_code.wk (by simp)
  have hF2 : frM [11, 9] σ (sI (sI σ 0 0 0) 0 0 0) := hF.tr (m_code.wk (by simp))
  have k1 : ((-24 : Int32)).toInt = -24 := rfl
  have k2 : ((24 : Int32)).toInt = 24 := rfl
  unfold m_X12_distance m_X12_distance_0
  rw [e, bi_some]
  refine ok_ite (fun q => ok_r ⟨⟨fun _ => rfl, fun z => absurd z.1 (hv.mp q)⟩, hF⟩) (fun q => ?_)
  have ha : isT n a := Classical.not_not.mp (fun z => q (hv.mpr z))
  rw [e2, bi_some]
  refine ok_ite (fun q2 => ?_) (fun q2 => ok_r ⟨⟨fun _ => rfl, fun z => absurd z.2 (hv2.mp (Classical.not_not.mp q2))⟩, hF2⟩)
  have hb : isT n b := Classical.not_not.mp (fun z => q2 (hv2.mpr z))
  have ha2 := ha.2
  have hb2 := hb.2
  have ha1 := ha.1
  have hb1 := hb.1
  refine ok_ite (fun q3 => ok_r ⟨⟨fun z => absurd ⟨ha, hb⟩ z, fun _ => ⟨fun _ => rfl, fun z => absurd (Or.inl (z_lt.mp q3)) z⟩⟩, hF2⟩) (fun q3 => ok_ite (fun q4 => ?_) (fun q4 => ok_r ⟨⟨fun z => absurd ⟨ha, hb⟩ z, fun _ => ⟨fun _ => rfl, fun z => absurd (Or.inr (by rw [z_le, k2] at q4; omega)) z⟩⟩, hF2⟩))
  rw [z_lt, k1] at q3
  rw [z_le, k2] at q4
  exact ok_b (m_distOf (x := a.toInt.toNat) (y := b.toInt.toNat) hB hK hM2 hK2 (by omega) (by omega) (by omega) (by omega) (by omega) (by omega)) (fun r s' h => ok_r ⟨⟨fun z => absurd ⟨ha, hb⟩ z, fun _ => ⟨fun z => by omega, fun _ => h.2⟩⟩, hF2.tr (h.1.wk (by simp))⟩)
theorem z_div32 {a : Int32} (h : 0 ≤ a.toInt) : (a / 32).toInt = a.toInt / 32 := by
  have := z_hi a
  rw [Int32.toInt_div, show ((32 : Int32)).toInt = 32 from rfl, Int.tdiv_eq_ediv_of_nonneg h, z_bmod (by omega) (by omega)]
def lim9 (most : Int) : Int := (if 3072001 < most then 3072001 else most) * 32 + 31
theorem x_begin {n : Nat} {c : Nat → Nat} {P L : Nat → Nat → Int} {K : Nat → Int} {x y : Nat} {s : Int} {σ : SG} {p1 : Int32} (hB : NB n c P L) (hK : KB K) (hX : uNX n c P L σ) (hKX : KX K σ) (hx : x < 9) (hy : y < 9) (h0 : 0 ≤ p1.toInt) : uOk (m_X8_begin σ p1) (fun _ σ' => fr1 206 207 σ σ' ∧ WXd (wd c P L K x y s) x y (lim9 p1.toInt) σ') := by
  have n0 : (0 : Int32).toNatClampNeg = 0 := rfl
  have n1 : (1 : Int32).toNatClampNeg = 1 := rfl
  have n2 : (2 : Int32).toNatClampNeg = 2 := rfl
  have n3 : (3 : Int32).toNatClampNeg = 3 := rfl
  have n4 : (4 : Int32).toNatClampNeg = 4 := rfl
  have k32 : ((32 : Int32)).toInt = 32 := rfl
  have k1 : ((1 : Int32)).toInt = 1 := rfl
  have kb : ((3072001 : Int32)).toInt = 3072001 := rfl
  unfold m_X8_begin m_X8_begin_0
  rw [n0, n1, n2, n3, n4]
  refine ok_i ⟨by decide, by decide⟩ (ok_l fun s1 e1 => ok_i ⟨by decide, by decide⟩ (ok_l fun s2 e2 => ok_i ⟨by decide, by decide⟩ (ok_l fun s3 e3 => ok_i ⟨by decide, by decide⟩ (ok_l fun s4 e4 => ok_i ⟨by decide, by decide⟩ (ok_l fun s5 e5 => ok_l fun v16 e16 => ok_l fun s6 e6 => ok_r ?_)))))
  have f1 : fr1 206 207 σ s1 := by rw [e1]; exact fr1.rf.sI (by omega)
  have f2 : fr1 206 207 σ s2 := by rw [e2]; exact f1.sI (by omega)
  have f3 : fr1 206 207 σ s3 := by rw [e3]; exact f2.sI (by omega)
  have f4 : fr1 206 207 σ s4 := by rw [e4]; exact f3.sI (by omega)
  have f5 : fr1 206 207 σ s5 := by rw [e5]; exact f4.sI (by omega)
  have f6 : fr1 206 207 σ s6 := by rw [e6]; exact f5.sI (by omega)
  have hp : ∀ k, k < 8 → (σ.1 18 k * 32).toInt = K k * 32 := fun k hk => by have := hK k hk; exact z_mulv (hKX k hk) k32 (by omega) (by omega)
  have h16 : v16.toInt = if 3072001 < p1.toInt then 3072001 else p1.toInt := by
    rw [e16]
    by_cases q : 3072001 < p1
    · rw [if_pos q]; rw [z_lt, kb] at q; rw [if_pos q]; rfl
    · rw [if_neg q]; rw [z_lt, kb] at q; rw [if_neg q]
  have hl : (v16 * 32 + 32 - 1).toInt = lim9 p1.toInt := by
    have b : 0 ≤ v16.toInt ∧ v16.toInt ≤ 3072001 := by rw [h16]; split <;> omega
    unfold lim9
    rw [← h16, z_subv (z_addv (z_mulv rfl k32 (by omega) (by omega)) k32 (by omega) (by omega)) k1 (by omega) (by omega)]
    omega
  have r1 : s1.1 18 4 = σ.1 18 4 := f1.1 _ _ (by omega)
  have r2 : s2.1 18 1 = σ.1 18 1 := f2.1 _ _ (by omega)
  have r3 : s3.1 18 2 = σ.1 18 2 := f3.1 _ _ (by omega)
  have r4 : s4.1 18 3 = σ.1 18 3 := f4.1 _ _ (by omega)
  rw [r1] at e2
  rw [r2] at e3
  rw [r3] at e4
  rw [r4] at e5
  refine ⟨f6, ⟨hx, hy, hB.2.1 x hx, hB.2.1 y hy⟩, ⟨by rw [f6.1 _ _ (by omega)]; exact hX.2.1 x hx, by rw [f6.1 _ _ (by omega)]; exact hX.2.1 y hy⟩, fun i hi => by rw [f6.1 _ _ (by omega), f6.1 _ _ (by omega)]; exact hX.2.2 x i hx hi, fun j hj => by rw [f6.1 _ _ (by omega), f6.1 _ _ (by omega)]; exact hX.2.2 y j hy hj, ⟨?_, ?_, ?_, ?_, ?_, ?_⟩, by unfold lim9; split <;> omega⟩
  · rw [e6, g_sI, if_neg (by omega), e5, g_sI, if_neg (by omega), e4, g_sI, if_neg (by omega), e3, g_sI, if_neg (by omega), e2, g_sI, if_neg (by omega), e1, g_sI_s]; exact hp 0 (by omega)
  · rw [e6, g_sI, if_neg (by omega), e5, g_sI, if_neg (by omega), e4, g_sI, if_neg (by omega), e3, g_sI, if_neg (by omega), e2, g_sI_s]; exact hp 4 (by omega)
  · rw [e6, g_sI, if_neg (by omega), e5, g_sI, if_neg (by omega), e4, g_sI, if_neg (by omega), e3, g_sI_s]; exact hp 1 (by omega)
  · rw [e6, g_sI, if_neg (by omega), e5, g_sI, if_neg (by omega), e4, g_sI_s]; exact hp 2 (by omega)
  · rw [e6, g_sI, if_neg (by omega), e5, g_sI_s]; exact hp 3 (by omega)
  · rw [e6, g_sI_s]; exact hl
theorem rgX_ways {k i : Nat} (h : 41 ≤ k) (h2 : k < 90) : rgX k i = 9 := by unfold rgX; grind
theorem fr1.w {σ σ' : SG} (h : fr1 41 90 σ σ') : frX [9] σ σ' := h.X (fun k i h1 h2 => by rw [rgX_ways h1 h2]; decide)
theorem fr1.w6 {σ σ' : SG} (h : fr1 41 66 σ σ') : frX [9] σ σ' := h.X (fun k i h1 h2 => by rw [rgX_ways h1 (by omega)]; decide)
theorem fr1.w206 {σ σ' : SG} (h : fr1 206 207 σ σ') : frX [9] σ σ' := h.X (fun k i h1 h2 => by rw [show k = 206 by omega]; show (9 : Nat) ∈ _; decide)
/-- the distance if it is at most most, else more -/
def disU (most v μ : Int) : Prop := (v ≤ most ↔ μ ≤ most) ∧ (most = 3072001 → v = μ)
theorem ux_whole {n : Nat} {c : Nat → Nat} {P L : Nat → Nat → Int} {K : Nat → Int} {x y : Nat} {σ : SG} {p3 p4 : Int32} {μ : Int} (hB : NB n c P L) (hK : KB K) (hX : uNX n c P L σ) (hKX : KX K σ) (hx : x < 9) (hy : y < 9) (s1 : -24 ≤ p3.toInt) (s2 : p3.toInt ≤ 24) (h0 : 0 ≤ p4.toInt) (hμ : Dis (wd c P L K x y p3.toInt) μ) :
    uOk (m_X8_wholeCost x y σ p3 p4) (fun v σ' => frX [9] σ σ' ∧ disU p4.toInt v.toInt μ) := by
  have hW := wd_B (x := x) (y := y) (s := p3.toInt) hB hK hx hy s1 s2
  have hb1 := hW.1
  have hb2 := hW.2.1
  have n0 : (0 : Int32).toNatClampNeg = 0 := rfl
  have hμb := hμ.b hW
  unfold m_X8_wholeCost m_X8_wholeCost_0
  rw [n0]
  refine ok_b (x_begin (x := x) (y := y) (s := p3.toInt) hB hK hX hKX hx hy h0) (fun _ σ1 h1 => ok_b (x_clear hW h1.2) (fun _ σ2 h2 => ok_i ⟨by decide, by decide⟩ (ok_i ⟨by decide, by decide⟩ (ok_l fun σ3 e3 => ?_))))
  have f3 : fr1 41 66 σ1 σ3 := by rw [e3]; exact h2.1.sI (by omega)
  have hx3 : ∀ a b, a ≤ wn (wd c P L K x y p3.toInt) → b ≤ wm (wd c P L K x y p3.toInt) → Xv σ3 a b = if a = 0 ∧ b = 0 then 0 else 2147483647 := fun a b ha hb => by
    unfold Xv
    rw [e3, g_sI]
    by_cases q : a = 0 ∧ b = 0
    · rw [if_pos (by omega), if_pos q]; rfl
    · rw [if_neg (by omega), if_neg q]; exact h2.2 a b ha hb
  have hW3 := h1.2.fr f3 (by omega) (by omega)
  refine ok_b (x_go (S := fun p e => p = 0 ∧ e = 0) hW rfl hW3 ⟨fun a b ha hb => ?_, fun p e hp => ?_, fun a b ha hb h => by omega⟩) (fun _ σ4 h4 => ?_)
  · rw [hx3 a b ha hb]
    split
    · rename_i q
      refine ⟨by decide, Or.inr ⟨0, 0, 0, ⟨rfl, rfl⟩, ?_, by decide⟩⟩
      rw [q.1, q.2]
      exact Pth.rf
    · exact ⟨by decide, Or.inl rfl⟩
  · obtain ⟨rfl, rfl⟩ := hp
    exact ⟨by omega, by rw [hx3 0 0 (by omega) (by omega)]; simp⟩
  · have hF : frX [9] σ σ4 := ((h1.1.w206).tr f3.w6).tr h4.1.w
    have hW4 := hW3.fr h4.1 (by omega) (by omega)
    have g1 : (σ4.1 (156 + x) 2).toInt = c x := hW4.2.1.1
    have g2 : (σ4.1 (156 + y) 2).toInt = c y := hW4.2.1.2
    have hbx : c x ≤ 24 := hb1
    have hby : c y ≤ 24 := hb2
    rw [z_nv g1, z_nv g2]
    obtain ⟨a1, a2, a3⟩ := h4.2 (c x) (c y) (Nat.le_refl _) (Nat.le_refl _)
    refine ok_i (by omega) (ok_i (by omega) (ok_r ⟨hF, ?_⟩))
    rw [z_div32 a1]
    show disU _ (Xv σ4 (c x) (c y) / 32) μ
    have hup : 32 * μ ≤ lim9 p4.toInt → Xv σ4 (c x) (c y) ≤ 32 * μ := fun h => a3 (32 * μ) ⟨0, 0, μ, ⟨rfl, rfl⟩, hμ.1, by omega⟩ h
    have hlo : Xv σ4 (c x) (c y) = 2147483647 ∨ ∃ e, Xv σ4 (c x) (c y) = 32 * e ∧ μ ≤ e := by
      rcases a2 with a2 | ⟨p, e, c0, ⟨rfl, rfl⟩, r2, r3⟩
      · exact Or.inl a2
      · exact Or.inr ⟨c0, by omega, hμ.2 c0 r2⟩
    unfold disU
    unfold lim9 at hup
    rcases hlo with hlo | ⟨e, he1, he2⟩
    · rw [hlo] at hup ⊢
      split at hup <;> omega
    · rw [he1] at hup ⊢
      have : 32 * e / 32 = e := by omega
      rw [this]
      split at hup <;> omega
theorem dis_ex {d : WD} (hB : WB d) : ∃ μ, Dis d μ := by
  -- the least of the costs at most 3072000
  obtain ⟨c, h1, h2⟩ := alone hB (i := 0) (j := 0) (by omega) (by omega)
  have hc := (h1.b hB).1
  have : ∀ k : Nat, ∀ c : Int, c = k → Pth d 0 0 (wn d) (wm d) c → ∃ μ, Dis d μ := by
    intro k
    induction k using Nat.strongRecOn with
    | _ k ih =>
      intro c hk hp
      by_cases q : ∃ e, Pth d 0 0 (wn d) (wm d) e ∧ e < c
      · obtain ⟨e, e1, e2⟩ := q
        have he := (e1.b hB).1
        exact ih e.toNat (by omega) e (by omega) e1
      · exact ⟨c, hp, fun e he => Int.not_lt.mp (fun z => q ⟨e, he, z⟩)⟩
  exact this c.toNat c (by omega) h1
theorem x_distance {n : Nat} {c : Nat → Nat} {P L : Nat → Nat → Int} {K : Nat → Int} {σ : SG} {a b s : Int32} (hB : NB n c P L) (hK : KB K) (hX : uNX n c P L σ) (hKX : KX K σ) : uOk (m_X11_distance σ a b s) (fun r σ' => pDist n c P L K a b s r ∧ frX [9] σ σ') := by
  have hn := hB.1
  obtain ⟨v, e, hv⟩ := x_isTune hX a
  obtain ⟨v2, e2, hv2⟩ := x_isTune hX b
  have k1 : ((-24 : Int32)).toInt = -24 := rfl
  have k2 : ((24 : Int32)).toInt = 24 := rfl
  unfold m_X11_distance m_X11_distance_0
  rw [e, bi_some]
  refine ok_ite (fun q => ok_r ⟨⟨fun _ => rfl, fun z => absurd z.1 (hv.mp q)⟩, frX.rf⟩) (fun q => ?_)
  have ha : isT n a := Classical.not_not.mp (fun z => q (hv.mpr z))
  rw [e2, bi_some]
  refine ok_ite (fun q2 => ?_) (fun q2 => ok_r ⟨⟨fun _ => rfl, fun z => absurd z.2 (hv2.mp (Classical.not_not.mp q2))⟩, frX.rf⟩)
  have hb : isT n b := Classical.not_not.mp (fun z => q2 (hv2.mpr z))
  have ha2 := ha.2
  have hb2 := hb.2
  have ha1 := ha.1
  have hb1 := hb.1
  refine ok_ite (fun q3 => ok_r ⟨⟨fun z => absurd ⟨ha, hb⟩ z, fun _ => ⟨fun _ => rfl, fun z => absurd (Or.inl (z_lt.mp q3)) z⟩⟩, frX.rf⟩) (fun q3 => ok_ite (fun q4 => ?_) (fun q4 => ok_r ⟨⟨fun z => absurd ⟨ha, hb⟩ z, fun _ => ⟨fun _ => rfl, fun z => absurd (Or.inr (by rw [z_le, k2] at q4; omega)) z⟩⟩, frX.rf⟩))
  rw [z_lt, k1] at q3
  rw [z_le, k2] at q4
  obtain ⟨μ, hμ⟩ := dis_ex (wd_B (x := a.toInt.toNat) (y := b.toInt.toNat) (s := s.toInt) hB hK (by omega) (by omega) (by omega) (by omega))
  refine ok_i (by omega) (ok_i (by omega) (ok_b (ux_whole hB hK hX hKX (by rw [z_nat]; omega) (by rw [z_nat]; omega) (by omega) (by omega) (by decide) hμ) (fun r s' h => ok_r ⟨⟨fun z => absurd ⟨ha, hb⟩ z, fun _ => ⟨fun z => by omega, fun _ => ?_⟩⟩, h.1⟩)))
  rw [h.2.2 rfl]
  exact hμ
