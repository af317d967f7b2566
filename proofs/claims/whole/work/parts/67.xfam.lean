/-! ===== families, both sides ===== -/
def eNr (c : Nat → Nat) (P L : Nat → Nat → Int) (K : Nat → Int) (most : Int) (x y : Nat) : Prop := (∃ μ, Dis (wd c P L K x y 0) μ ∧ μ ≤ most) ∨ (∃ μ, Dis (wd c P L K y x 0) μ ∧ μ ≤ most)
theorem eNr_s {c : Nat → Nat} {P L : Nat → Nat → Int} {K : Nat → Int} {most : Int} : ∀ x y, eNr c P L K most x y → eNr c P L K most y x := fun _ _ h => h.symm
theorem x_areNear {n : Nat} {c : Nat → Nat} {P L : Nat → Nat → Int} {K : Nat → Int} {x y : Nat} {σ : SG} {p2 : Int32} (hB : NB n c P L) (hK : KB K) (hX : uNX n c P L σ) (hKX : KX K σ) (hx : x < 9) (hy : y < 9) (h0 : 0 ≤ p2.toInt) : uOk (m_X11_areNear x y σ p2) (fun v σ' => frX [9] σ σ' ∧ (v = 0 ↔ ¬ eNr c P L K p2.toInt x y)) := by
  have z0 : ((0 : Int32)).toInt = 0 := rfl
  obtain ⟨μ, hμ⟩ := dis_ex (wd_B (x := x) (y := y) (s := ((0 : Int32)).toInt) hB hK hx hy (by rw [z0]; omega) (by rw [z0]; omega))
  obtain ⟨ν, hν⟩ := dis_ex (wd_B (x := y) (y := x) (s := ((0 : Int32)).toInt) hB hK hy hx (by rw [z0]; omega) (by rw [z0]; omega))
  have hE : eNr c P L K p2.toInt x y ↔ μ ≤ p2.toInt ∨ ν ≤ p2.toInt := by
    constructor
    · rintro (⟨a, a1, a2⟩ | ⟨a, a1, a2⟩)
      · exact Or.inl (by rw [hμ.uniq a1]; exact a2)
      · exact Or.inr (by rw [hν.uniq a1]; exact a2)
    · rintro (a | a)
      · exact Or.inl ⟨μ, hμ, a⟩
      · exact Or.inr ⟨ν, hν, a⟩
  unfold m_X11_areNear m_X11_areNear_0
  refine ok_b (ux_whole hB hK hX hKX hx hy (by rw [z0]; omega) (by rw [z0]; omega) h0 hμ) (fun v1 s2 h1 => ok_ite (fun q => ok_r ⟨h1.1, ?_⟩) (fun q => ok_b (ux_whole hB hK (hX.fr h1.1 (by decide)) (hKX.fr h1.1 (by decide)) hy hx (by rw [z0]; omega) (by rw [z0]; omega) h0 hν) (fun v5 s6 h5 => ok_ite (fun q2 => ok_r ⟨h1.1.tr h5.1, ?_⟩) (fun q2 => ok_r ⟨h1.1.tr h5.1, ?_⟩))))
  · rw [z_le] at q
    have := h1.2.1.mp q
    rw [hE]
    simp
    omega
  · rw [z_le] at q
    rw [z_lt] at q2
    rw [hE]
    have a := fun z => q (h1.2.1.mpr z)
    have b := fun z => Int.not_le.mpr q2 (h5.2.1.mpr z)
    simp
    exact ⟨Int.not_le.mp a, Int.not_le.mp b⟩
  · rw [z_lt] at q2
    have b := h5.2.1.mp (Int.not_lt.mp q2)
    rw [hE]
    simp
    omega
def hOk (n : Nat) (h : Nat → Nat) : Prop := ∀ t, t < n → h t < n
theorem x_join {n : Nat} {p q : Nat} {h : Nat → Nat} {l1 l2 l3 : Int32} (hn : n ≤ 8) (hh : hOk n h) (h1 : l1.toInt = p) (h2 : l2.toInt = q) (h3 : l3.toInt = if q < p then q else p) :
    ∀ (r fuel k : Nat) (σ : SG) (l4 : Int32), r < fuel → k + r = n → l4.toInt = k → FmX n (fun t => if t < k then (jn h p q t : Int) else (h t : Int)) σ → uOk (m_X11_joinFamilies_9 fuel σ l1 l2 l3 l4) (fun _ σ' => frX [6] σ σ' ∧ FmX n (fun t => (jn h p q t : Int)) σ') := by
  intro r
  induction r with
  | zero =>
    intro fuel k σ l4 hf hr h4 hF
    have hF2 : ∀ t, t < n → (σ.1 40 t).toInt = (if t < k then (jn h p q t : Int) else (h t : Int)) := hF.2
    cases fuel with
    | zero => omega
    | succ fuel =>
      show uOk (m_X11_joinFamilies_9_s _ σ l1 l2 l3 l4) _
      unfold m_X11_joinFamilies_9_s
      refine ok_ite (fun _ => ok_r ⟨frX.rf, hF.1, fun t ht => ?_⟩) (fun q => absurd (z_le.mpr (by rw [hF.1, h4]; omega)) q)
      show _ = (jn h p q t : Int)
      rw [hF2 t ht, if_pos (by omega)]
  | succ r ih =>
    intro fuel k σ l4 hf hr h4 hF
    have hF2 : ∀ t, t < n → (σ.1 40 t).toInt = (if t < k then (jn h p q t : Int) else (h t : Int)) := hF.2
    cases fuel with
    | zero => omega
    | succ fuel =>
      show uOk (m_X11_joinFamilies_9_s _ σ l1 l2 l3 l4) _
      unfold m_X11_joinFamilies_9_s
      rw [z_nv h4]
      have hk := hF2 k (by omega)
      rw [if_neg (by omega)] at hk
      have hhk := hh k (by omega)
      have nxt : ∀ σ', frX [6] σ σ' → FmX n (fun t => if t < k + 1 then (jn h p q t : Int) else (h t : Int)) σ' → uOk (m_X11_joinFamilies_48 (m_X11_joinFamilies_9 fuel) σ' l1 l2 l3 l4) (fun _ σ' => frX [6] σ σ' ∧ FmX n (fun t => (jn h p q t : Int)) σ') := fun σ' hf6 hF' => by
        unfold m_X11_joinFamilies_48
        exact ok_l fun v ev => (ih fuel (k + 1) σ' v (by omega) (by omega) (by rw [ev, z_add1 (by omega), h4]; rfl) hF').mono (fun _ s h' => ⟨hf6.tr h'.1, h'.2⟩)
      have put : (h k = p ∨ h k = q) → uOk (m_X11_joinFamilies_40 (m_X11_joinFamilies_9 fuel) σ l1 l2 l3 l4) (fun _ σ' => frX [6] σ σ' ∧ FmX n (fun t => (jn h p q t : Int)) σ') := fun hpq => by
        unfold m_X11_joinFamilies_40
        rw [z_nv h4]
        refine ok_i (by omega) (ok_l fun s es => nxt s (by rw [es]; exact frX.rf.sI (by show (6 : Nat) ∈ _; decide)) ⟨by rw [es, g_sI, if_neg (by omega)]; exact hF.1, fun t ht => ?_⟩)
        show _ = (if t < k + 1 then (jn h p q t : Int) else (h t : Int))
        rw [es, g_sI]
        by_cases e : t = k
        · rw [if_pos ⟨rfl, e⟩, if_pos (by omega), e, h3]
          unfold jn
          rw [if_pos hpq]
        · rw [if_neg (fun z => e z.2), hF2 t ht]
          by_cases e2 : t < k
          · rw [if_pos e2, if_pos (by omega)]
          · rw [if_neg e2, if_neg (by omega)]
      refine ok_ite (fun q => absurd (z_le.mp q) (by rw [hF.1, h4]; omega)) (fun _ => ok_i (by omega) (ok_ite (fun q1 => put (Or.inl ?_)) (fun q1 => ok_i (by omega) (ok_ite (fun q2 => nxt σ frX.rf ⟨hF.1, fun t ht => ?_⟩) (fun q2 => put (Or.inr ?_))))))
      · rw [z_eq, hk, h1] at q1; omega
      · rw [z_eq, hk, h1] at q1
        rw [z_eq, hk, h2] at q2
        show _ = (if t < k + 1 then (jn h p q t : Int) else (h t : Int))
        rw [hF2 t ht]
        by_cases e : t = k
        · rw [e, if_neg (by omega), if_pos (by omega)]
          unfold jn
          rw [if_neg (by omega)]
        · by_cases e2 : t < k
          · rw [if_pos e2, if_pos (by omega)]
          · rw [if_neg e2, if_neg (by omega)]
      · rw [z_eq, hk, h2, Classical.not_not] at q2; omega
section XF
variable {n : Nat} {c : Nat → Nat} {P L : Nat → Nat → Int} {K : Nat → Int} {l1 : Int32}
/-- the class's state within families -/
def XFs (n : Nat) (c : Nat → Nat) (P L : Nat → Nat → Int) (K : Nat → Int) (h : Nat → Nat) (σ : SG) : Prop := uNX n c P L σ ∧ KX K σ ∧ FmX n (fun t => (h t : Int)) σ
theorem x_fam58 (hB : NB n c P L) (hK : KB K) (h1 : 0 ≤ l1.toInt) {Q : Int32 → SG → Prop} {c45 : SG → Int32 → Int32 → Int32 → Option (Int32 × SG)} {a : Nat} {l3 : Int32} (ha : a < n) (h3 : l3.toInt = a) (σ0 : SG)
    (kk : ∀ σ' h, frX [9, 6] σ0 σ' → XFs n c P L K h σ' → CIf (eNr c P L K l1.toInt) n (a + 1) (a + 1 + 1) h → ∀ l2 v : Int32, l2.toInt = fixN h n → v.toInt = ((a + 1 : Nat) : Int) → uOk (c45 σ' l1 l2 v) Q) :
    ∀ (r fuel b : Nat) (σ : SG) (h : Nat → Nat) (l2 l4 : Int32), r < fuel → b + r = n → a < b → l2.toInt = fixN h n → l4.toInt = b → frX [9, 6] σ0 σ → XFs n c P L K h σ → CIf (eNr c P L K l1.toInt) n a b h → uOk (m_X11_families_58 c45 fuel σ l1 l2 l3 l4) Q := by
  have hn := hB.1
  intro r
  induction r with
  | zero =>
    intro fuel b σ h l2 l4 hf hr hab h2 h4 hF hS hC
    cases fuel with
    | zero => omega
    | succ fuel =>
      show uOk (m_X11_families_58_s c45 _ σ l1 l2 l3 l4) Q
      unfold m_X11_families_58_s
      refine ok_ite (fun _ => ok_l fun v ev => kk σ h hF hS ⟨hC.1, fun x y hxy hy hp he => hC.2 x y hxy hy (by omega) he⟩ l2 v h2 (by rw [ev, z_add1 (by omega), h3]; rfl)) (fun q => absurd (z_le.mpr (by rw [hS.1.1, h4]; omega)) q)
  | succ r ih =>
    intro fuel b σ h l2 l4 hf hr hab h2 h4 hF hS hC
    cases fuel with
    | zero => omega
    | succ fuel =>
      show uOk (m_X11_families_58_s c45 _ σ l1 l2 l3 l4) Q
      unfold m_X11_families_58_s
      rw [z_nv h3, z_nv h4]
      have ga : (σ.1 40 a).toInt = h a := hS.2.2.2 a ha
      have gb : (σ.1 40 b).toInt = h b := hS.2.2.2 b (by omega)
      have nxt : ∀ σ' h' (l2' : Int32), frX [9, 6] σ σ' → XFs n c P L K h' σ' → CIf (eNr c P L K l1.toInt) n a (b + 1) h' → l2'.toInt = fixN h' n → uOk (m_X11_families_124 c45 (m_X11_families_58 c45 fuel) σ' l1 l2' l3 l4) Q := fun σ' h' l2' hf' hS' hC' h2' => by
        unfold m_X11_families_124
        exact ok_l fun v ev => ih fuel (b + 1) σ' h' l2' v (by omega) (by omega) (by omega) h2' (by rw [ev, z_add1 (by omega), h4]; rfl) (hF.tr hf') hS' hC'
      refine ok_ite (fun q => absurd (z_le.mp q) (by rw [hS.1.1, h4]; omega)) (fun _ => ok_i (by omega) (ok_i (by omega) (ok_ite (fun q => nxt σ h l2 frX.rf hS (hC.skip (fun _ => by rw [z_eq, ga, gb] at q; omega)) h2) (fun q => ok_i (by omega) (ok_i (by omega) (ok_b (x_areNear hB hK hS.1 hS.2.1 (by omega : a < 9) (by omega : b < 9) h1) (fun v27 s28 h27 => ?_)))))))
      rw [z_eq, ga, gb] at q
      have hF28 : frX [9, 6] σ s28 := h27.1.wk (by simp)
      have hS28 : XFs n c P L K h s28 := ⟨hS.1.fr h27.1 (by decide), hS.2.1.fr h27.1 (by decide), hS.2.2.fr h27.1 (by decide)⟩
      refine ok_ite (fun q2 => nxt s28 h l2 hF28 hS28 (hC.skip (fun z => absurd z (h27.2.mp q2))) h2) (fun q2 => ?_)
      have he : eNr c P L K l1.toInt a b := Classical.not_not.mp (fun z => q2 (h27.2.mpr z))
      have ga' : (s28.1 40 a).toInt = h a := hS28.2.2.2 a ha
      have gb' : (s28.1 40 b).toInt = h b := hS28.2.2.2 b (by omega)
      have hj := hC.join eNr_s hab (by omega) he (by omega)
      have hok : hOk n h := fun t ht => by have := (hC.1 t ht).1; omega
      refine ok_i (by omega) (ok_i (by omega) (ok_b (Q := fun _ σ' => frX [6] s28 σ' ∧ FmX n (fun t => (jn h (h a) (h b) t : Int)) σ') ?_ (fun _ s34 h34 => ok_l fun v36 e36 => ?_)))
      · unfold m_X11_joinFamilies m_X11_joinFamilies_0
        refine ok_l fun v1 e1 => x_join hn hok ga' gb' ?_ n FV 0 s28 0 (FV_big (by omega)) (by omega) rfl ⟨hS28.2.2.1, fun t ht => ?_⟩
        · rw [e1, z_minv gb' ga']
          split <;> split <;> omega
        · show _ = (if t < 0 then _ else (h t : Int))
          rw [if_neg (by omega)]; exact hS28.2.2.2 t ht
      · have hfx := fixN_le (h := h) n
        refine nxt s34 (jn h (h a) (h b)) v36 (hF28.tr (h34.1.wk (by simp))) ⟨hS28.1.fr h34.1 (by decide), hS28.2.1.fr h34.1 (by decide), h34.2⟩ hj.1 ?_
        rw [e36, z_addm1 (by omega), h2]
        omega
theorem x_fam45 (hB : NB n c P L) (hK : KB K) (h1 : 0 ≤ l1.toInt) :
    ∀ (r fuel a : Nat) (σ : SG) (h : Nat → Nat) (l2 l3 : Int32), r < fuel → a + r = n → l2.toInt = fixN h n → l3.toInt = a → XFs n c P L K h σ → CIf (eNr c P L K l1.toInt) n a (a + 1) h → uOk (m_X11_families_45 fuel σ l1 l2 l3) (fun v σ' => frX [9, 6] σ σ' ∧ ∃ f, HFm (eNr c P L K l1.toInt) n f ∧ v.toInt = fixN f n ∧ FmX n (fun t => (f t : Int)) σ') := by
  have hn := hB.1
  intro r
  induction r with
  | zero =>
    intro fuel a σ h l2 l3 hf hr h2 h3 hS hC
    cases fuel with
    | zero => omega
    | succ fuel =>
      show uOk (m_X11_families_45_s _ σ l1 l2 l3) _
      unfold m_X11_families_45_s
      exact ok_ite (fun _ => ok_r ⟨frX.rf, h, CIf.fin eNr_s (b := a + 1) (by rw [show a = n by omega] at hC; rw [show a = n by omega]; exact hC), h2, hS.2.2⟩) (fun q => absurd (z_le.mpr (by rw [hS.1.1, h3]; omega)) q)
  | succ r ih =>
    intro fuel a σ h l2 l3 hf hr h2 h3 hS hC
    cases fuel with
    | zero => omega
    | succ fuel =>
      show uOk (m_X11_families_45_s _ σ l1 l2 l3) _
      unfold m_X11_families_45_s
      refine ok_ite (fun q => absurd (z_le.mp q) (by rw [hS.1.1, h3]; omega)) (fun _ => ok_l fun v13 e13 => ?_)
      refine x_fam58 hB hK h1 (by omega) h3 σ (fun σ' h' hF' hS' hC' l2' v hl2 hv => ?_) (n - (a + 1)) FV (a + 1) σ h l2 v13 (FV_big (by omega)) (by omega) (by omega) h2 (by rw [e13, z_add1 (by omega), h3]; rfl) frX.rf hS hC
      exact (ih fuel (a + 1) σ' h' l2' v (by omega) (by omega) hl2 hv hS' hC').mono (fun _ s h9 => ⟨hF'.tr h9.1, h9.2⟩)
theorem fixN_id : ∀ n, fixN (fun t => t) n = n
  | 0 => rfl
  | n + 1 => by show fixN (fun t => t) n + (if n = n then 1 else 0) = _; rw [fixN_id n, if_pos rfl]
theorem x_fam22 (hB : NB n c P L) (hK : KB K) (h1 : 0 ≤ l1.toInt) {l2 : Int32} (h2 : l2.toInt = n) :
    ∀ (r fuel k : Nat) (σ : SG) (l3 : Int32), r < fuel → k + r = n → l3.toInt = k → uNX n c P L σ → KX K σ → (σ.1 155 15).toInt = n → (∀ t, t < k → (σ.1 40 t).toInt = t) → uOk (m_X11_families_22 fuel σ l1 l2 l3) (fun v σ' => frX [9, 6] σ σ' ∧ ∃ f, HFm (eNr c P L K l1.toInt) n f ∧ v.toInt = fixN f n ∧ FmX n (fun t => (f t : Int)) σ') := by
  have hn := hB.1
  intro r
  induction r with
  | zero =>
    intro fuel k σ l3 hf hr h3 hX hKX h15 hd
    cases fuel with
    | zero => omega
    | succ fuel =>
      show uOk (m_X11_families_22_s _ σ l1 l2 l3) _
      unfold m_X11_families_22_s
      refine ok_ite (fun _ => ?_) (fun q => absurd (z_le.mpr (by rw [hX.1, h3]; omega)) q)
      exact x_fam45 hB hK h1 n FV 0 σ (fun t => t) l2 0 (FV_big (by omega)) (by omega) (by rw [h2, fixN_id]) rfl ⟨hX, hKX, h15, fun t ht => hd t (by omega)⟩ ⟨fun t ht => ⟨Nat.le_refl _, rfl, Con.rf⟩, fun x y hxy hy hp => by omega⟩
  | succ r ih =>
    intro fuel k σ l3 hf hr h3 hX hKX h15 hd
    cases fuel with
    | zero => omega
    | succ fuel =>
      show uOk (m_X11_families_22_s _ σ l1 l2 l3) _
      unfold m_X11_families_22_s
      rw [z_nv h3]
      refine ok_ite (fun q => absurd (z_le.mp q) (by rw [hX.1, h3]; omega)) (fun _ => ok_i (by omega) (ok_l fun s es => ok_l fun v ev => ?_))
      have hF : frX [9, 6] σ s := by rw [es]; exact frX.rf.sI (by show (6 : Nat) ∈ _; decide)
      refine (ih fuel (k + 1) s v (by omega) (by omega) (by rw [ev, z_add1 (by omega), h3]; rfl) (hX.fr hF (by decide)) (hKX.fr hF (by decide)) (by rw [es, g_sI, if_neg (by omega)]; exact h15) (fun t ht => ?_)).mono (fun _ s' h => ⟨hF.tr h.1, h.2⟩)
      rw [es, g_sI]
      by_cases e : t = k
      · rw [if_pos ⟨rfl, e⟩, e]; exact h3
      · rw [if_neg (fun z => e z.2)]; exact hd t (by omega)
end XF
theorem x_families {n : Nat} {c : Nat → Nat} {P L : Nat → Nat → Int} {K : Nat → Int} {k : Nat} {h : Nat → Int} {σ : SG} {p0 : Int32} (hB : NB n c P L) (hK : KB K) (hX : uNX n c P L σ) (hKX : KX K σ) (hF : FmX k h σ) : uOk (m_X11_families σ p0) (fun v σ' => frX [9, 6] σ σ' ∧ (p0.toInt < 0 → v = -2 ∧ FmX k h σ') ∧ (0 ≤ p0.toInt → ∃ f, HFm (eNr c P L K p0.toInt) n f ∧ v.toInt = fixN f n ∧ FmX n (fun t => (f t : Int)) σ')) := by
  have k0 : ((0 : Int32)).toInt = 0 := rfl
  have hn := hB.1
  unfold m_X11_families m_X11_families_0
  refine ok_ite (fun q => ok_l fun s es => ok_l fun v4 e4 => ?_) (fun q => ok_r ⟨frX.rf, fun _ => ⟨rfl, hF⟩, fun z => absurd (z_le.mpr (by rw [k0]; exact z)) q⟩)
  rw [z_le, k0] at q
  have hF1 : frX [9, 6] σ s := by rw [es]; exact frX.rf.sI (by show (6 : Nat) ∈ _; decide)
  have hX1 := hX.fr hF1 (by decide)
  exact (x_fam22 hB hK q (by rw [e4]; exact hX1.1) n FV 0 s 0 (FV_big (by omega)) (by omega) rfl hX1 (hKX.fr hF1 (by decide)) (by rw [es, g_sI_s]; exact hX.1) (fun t ht => by omega)).mono (fun v s' h9 => ⟨hF1.tr h9.1, fun z => by omega, fun _ => h9.2⟩)
