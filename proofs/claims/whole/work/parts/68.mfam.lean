/-! ===== the model's families ===== -/
def MFs (n : Nat) (c : Nat → Nat) (P L : Nat → Nat → Int) (K : Nat → Int) (h : Nat → Nat) (σ : SG) : Prop := uNM n c P L σ ∧ uKM K σ ∧ FmM n (fun t => (h t : Int)) σ
section MF
variable {n : Nat} {c : Nat → Nat} {P L : Nat → Nat → Int} {K : Nat → Int} {l1 : Int32}
theorem m_fam204 (hn : n ≤ 8) {h : Nat → Nat} {σ : SG} (hM : (σ.1 0 4).toInt = n) (hF : ∀ t, t < n → (σ.1 23 t).toInt = h t) : ∀ (r fuel k : Nat) (l2 l3 : Int32), r < fuel → k + r = n → l2.toInt = fixN h k → l3.toInt = k → uOk (m_X12_families_204 fuel σ l2 l3) (fun v σ' => σ' = σ ∧ v.toInt = fixN h n) := by
  intro r
  induction r with
  | zero =>
    intro fuel k l2 l3 hf hr h2 h3
    cases fuel with
    | zero => omega
    | succ fuel =>
      show uOk (m_X12_families_204_s _ σ l2 l3) _
      unfold m_X12_families_204_s
      exact ok_ite (fun _ => ok_r ⟨rfl, by rw [h2, show k = n by omega]⟩) (fun q => absurd (z_le.mpr (by rw [hM, h3]; omega)) q)
  | succ r ih =>
    intro fuel k l2 l3 hf hr h2 h3
    cases fuel with
    | zero => omega
    | succ fuel =>
      show uOk (m_X12_families_204_s _ σ l2 l3) _
      unfold m_X12_families_204_s m_X12_families_228
      rw [z_nv h3]
      have hk := hF k (by omega)
      have hb := fixN_le (h := h) k
      refine ok_ite (fun q => absurd (z_le.mp q) (by rw [hM, h3]; omega)) (fun _ => ok_i (by omega) (ok_ite (fun q => ok_l fun v ev => ok_l fun w ew => ih fuel (k + 1) v w (by omega) (by omega) ?_ (by rw [ew, z_add1 (by omega), h3]; rfl)) (fun q => ok_l fun v ev => ok_l fun w ew => ih fuel (k + 1) v w (by omega) (by omega) ?_ (by rw [ew, z_add1 (by omega), h3]; rfl))))
      · rw [z_eq, hk, h3] at q
        rw [ev, z_addv h2 (show ((0 : Int32)).toInt = 0 from rfl) (by omega) (by omega)]
        show _ = ((fixN h k + (if h k = k then 1 else 0) : Nat) : Int)
        rw [if_neg (by omega)]
        omega
      · rw [z_eq, hk, h3, Classical.not_not] at q
        rw [ev, z_addv h2 (show ((1 : Int32)).toInt = 1 from rfl) (by omega) (by omega)]
        show _ = ((fixN h k + (if h k = k then 1 else 0) : Nat) : Int)
        rw [if_pos (by omega)]
        omega
theorem m_fam66 (hB : NB n c P L) (hK : KB K) (h1 : 0 ≤ l1.toInt) {Q : Int32 → SG → Prop} {c45 : SG → Int32 → Int32 → Option (Int32 × SG)} {c55 : SG → Int32 → Int32 → Int32 → Option (Int32 × SG)} {k a : Nat} {l2 l3 : Int32} (ha : a < n) (h3 : l3.toInt = a) (σ0 : SG)
    (kk : ∀ σ' h, frM [9, 6] σ0 σ' → MFs n c P L K h σ' → MIf (eNr c P L K l1.toInt) n k (a + 1) 0 h → ∀ v : Int32, v.toInt = ((a + 1 : Nat) : Int) → uOk (c55 σ' l1 l2 v) Q) :
    ∀ (r fuel b : Nat) (σ : SG) (h : Nat → Nat) (l4 : Int32), r < fuel → b + r = a → l4.toInt = b → frM [9, 6] σ0 σ → MFs n c P L K h σ → MIf (eNr c P L K l1.toInt) n k a b h → uOk (m_X12_families_66 c45 c55 fuel σ l1 l2 l3 l4) Q := by
  have hn := hB.1
  have z0 : ((0 : Int32)).toInt = 0 := rfl
  intro r
  induction r with
  | zero =>
    intro fuel b σ h l4 hf hr h4 hF hS hC
    cases fuel with
    | zero => omega
    | succ fuel =>
      show uOk (m_X12_families_66_s c45 c55 _ σ l1 l2 l3 l4) Q
      unfold m_X12_families_66_s
      refine ok_ite (fun _ => ok_l fun v ev => kk σ h hF hS ⟨hC.1, hC.2.1, fun x y hxy hx hp => hC.2.2 x y hxy hx (by omega)⟩ v (by rw [ev, z_add1 (by omega), h3]; rfl)) (fun q => absurd (z_le.mpr (by rw [h3, h4]; omega)) q)
  | succ r ih =>
    intro fuel b σ h l4 hf hr h4 hF hS hC
    cases fuel with
    | zero => omega
    | succ fuel =>
      show uOk (m_X12_families_66_s c45 c55 _ σ l1 l2 l3 l4) Q
      unfold m_X12_families_66_s
      rw [z_nv h3, z_nv h4]
      have ga : (σ.1 23 a).toInt = h a := hS.2.2.2 a ha
      have gb : (σ.1 23 b).toInt = h b := hS.2.2.2 b (by omega)
      -- the two writes
      have put : ∀ (s : SG) (s0 : Int32) (h' : Nat → Nat), frM [9, 6] σ s → MFs n c P L K h s → (∀ t, t < n → (h' t : Int) = if t = b then (if s0 = 0 then (h b : Int) else (if h b < h a then h b else h a : Nat)) else if t = a then (if s0 = 0 then (h a : Int) else (if h b < h a then h b else h a : Nat)) else (h t : Int)) → MIf (eNr c P L K l1.toInt) n k a (b + 1) h' → uOk (m_X12_families_116 c45 c55 (m_X12_families_66 c45 c55 fuel) s l1 l2 l3 l4 s0) Q := fun s s0 h' hfs hSs hv hC' => by
        have sa : (s.1 23 a).toInt = h a := hSs.2.2.2 a ha
        have sb : (s.1 23 b).toInt = h b := hSs.2.2.2 b (by omega)
        unfold m_X12_families_116
        rw [z_nv h3, z_nv h4]
        refine ok_i (by omega) (ok_i (by omega) (ok_l fun v40 e40 => ?_))
        have h40 : v40.toInt = (if h b < h a then h b else h a : Nat) := by
          rw [e40, z_minv sb sa]
          split <;> split <;> omega
        have fin : ∀ (w1 w2 : Int32) (s1 : SG), s1 = sI (sI s 23 a w1) 23 b w2 → w1.toInt = (if s0 = 0 then (h a : Int) else (if h b < h a then h b else h a : Nat)) → w2.toInt = (if s0 = 0 then (h b : Int) else (if h b < h a then h b else h a : Nat)) → ∀ v : Int32, v = l4 + 1 → uOk (m_X12_families_66 c45 c55 fuel s1 l1 l2 l3 v) Q := fun w1 w2 s1 es1 hw1 hw2 v ev => by
          have hf1 : frM [9, 6] s s1 := by rw [es1]; exact (frM.rf.sI (by show (6 : Nat) ∈ _; decide)).sI (by show (6 : Nat) ∈ _; decide)
          refine ih fuel (b + 1) s1 h' v (by omega) (by omega) (by rw [ev, z_add1 (by omega), h4]; rfl) ((hF.tr hfs).tr hf1) ⟨hSs.1.fr hf1 (by decide), hSs.2.1.fr hf1 (by decide), ⟨by rw [es1, g_sI, if_neg (by omega), g_sI, if_neg (by omega)]; exact hSs.2.2.1, fun t ht => ?_⟩⟩ hC'
          show _ = (h' t : Int)
          rw [hv t ht, es1, g_sI]
          by_cases eb : t = b
          · rw [if_pos ⟨rfl, eb⟩, if_pos eb, hw2]
          · rw [if_neg (fun z => eb z.2), if_neg eb, g_sI]
            by_cases ea : t = a
            · rw [if_pos ⟨rfl, ea⟩, if_pos ea, hw1]
            · rw [if_neg (fun z => ea z.2), if_neg ea]; exact hSs.2.2.2 t ht
        refine ok_ite (fun q => ok_i (by omega) ?_) (fun q => ?_)
        · unfold m_X12_families_157
          rw [z_nv h3]
          refine ok_i (by omega) (ok_l fun s45 e45 => ok_ite (fun _ => ok_i (by omega) ?_) (fun q2 => absurd q q2))
          unfold m_X12_families_181
          rw [z_nv h4]
          refine ok_i (by omega) (ok_l fun s50 e50 => ok_l fun v52 e52 => fin (s.1 23 a) (s45.1 23 b) s50 (by rw [e50, e45]) (by rw [if_pos q]; exact sa) (by rw [if_pos q, e45, g_sI, if_neg (by omega)]; exact sb) v52 e52)
        · unfold m_X12_families_157
          rw [z_nv h3]
          refine ok_i (by omega) (ok_l fun s45 e45 => ok_ite (fun q2 => absurd q2 q) (fun _ => ?_))
          unfold m_X12_families_181
          rw [z_nv h4]
          exact ok_i (by omega) (ok_l fun s50 e50 => ok_l fun v52 e52 => fin v40 v40 s50 (by rw [e50, e45]) (by rw [if_neg q]; exact h40) (by rw [if_neg q]; exact h40) v52 e52)
      have no : ∀ s, frM [9, 6] σ s → MFs n c P L K h s → (eNr c P L K l1.toInt a b → h a = h b) → uOk (m_X12_families_115 c45 c55 (m_X12_families_66 c45 c55 fuel) s l1 l2 l3 l4) Q := fun s hfs hSs hq => by
        unfold m_X12_families_115
        refine put s 0 h hfs hSs (fun t ht => ?_) (hC.skip (by omega) ha hq)
        rw [if_pos rfl, if_pos rfl]
        by_cases e1 : t = b
        · rw [if_pos e1, e1]
        · rw [if_neg e1]
          by_cases e2 : t = a
          · rw [if_pos e2, e2]
          · rw [if_neg e2]
      refine ok_ite (fun q => absurd (z_le.mp q) (by rw [h3, h4]; omega)) (fun _ => ok_i (by omega) (ok_i (by omega) (ok_ite (fun q => no σ frM.rf hS (fun _ => by rw [z_eq, ga, gb] at q; omega)) (fun q => ?_))))
      refine ok_b (m_distOf (x := a) (y := b) hB hK hS.1 hS.2.1 (by omega) (by omega) h3 h4 (by rw [z0]; omega) (by rw [z0]; omega)) (fun v29 s30 h29 => ok_b (m_distOf (x := b) (y := a) hB hK (hS.1.fr h29.1 (by decide)) (hS.2.1.fr h29.1 (by decide)) (by omega) (by omega) h4 h3 (by rw [z0]; omega) (by rw [z0]; omega)) (fun v32 s33 h32 => ok_l fun v35 e35 => ?_))
      have hF33 : frM [9, 6] σ s33 := (h29.1.tr h32.1).wk (by simp)
      have hS33 : MFs n c P L K h s33 := ⟨hS.1.fr hF33 (by decide), hS.2.1.fr hF33 (by decide), hS.2.2.fr (h29.1.tr h32.1) (by decide)⟩
      have h35 : v35.toInt = if v32.toInt < v29.toInt then v32.toInt else v29.toInt := by rw [e35]; exact z_minv rfl rfl
      have d1 : Dis (wd c P L K a b 0) v29.toInt := h29.2
      have d2 : Dis (wd c P L K b a 0) v32.toInt := h32.2
      refine ok_ite (fun q2 => no s33 hF33 hS33 (fun z => ?_)) (fun q2 => put s33 1 (mup h a b) hF33 hS33 (fun t ht => ?_) (hC.put eNr_s (by omega) ha ?_))
      · rw [z_lt, h35] at q2
        rcases z with ⟨μ, m1, m2⟩ | ⟨μ, m1, m2⟩
        · have := m1.uniq d1; split at q2 <;> omega
        · have := m1.uniq d2; split at q2 <;> omega
      · simp only [if_neg (show ¬ (1 : Int32) = 0 by decide)]
        unfold mup va_up
        by_cases e1 : t = b
        · rw [if_pos e1, if_pos e1]
        · rw [if_neg e1, if_neg e1]
          by_cases e2 : t = a
          · rw [if_pos e2, if_pos e2]
          · rw [if_neg e2, if_neg e2]
      · rw [z_lt, h35] at q2
        split at q2
        · exact Or.inr ⟨_, d2, by omega⟩
        · exact Or.inl ⟨_, d1, by omega⟩
theorem m_fam55 (hB : NB n c P L) (hK : KB K) (h1 : 0 ≤ l1.toInt) {Q : Int32 → SG → Prop} {c45 : SG → Int32 → Int32 → Option (Int32 × SG)} {k : Nat} {l2 : Int32} (h2 : l2.toInt = k) (hk : k < n) (σ0 : SG)
    (kk : ∀ σ' h, frM [9, 6] σ0 σ' → MFs n c P L K h σ' → MIf (eNr c P L K l1.toInt) n (k + 1) 0 0 h → ∀ v : Int32, v.toInt = ((k + 1 : Nat) : Int) → uOk (c45 σ' l1 v) Q) :
    ∀ (r fuel a : Nat) (σ : SG) (h : Nat → Nat) (l3 : Int32), r < fuel → a + r = n → l3.toInt = a → frM [9, 6] σ0 σ → MFs n c P L K h σ → MIf (eNr c P L K l1.toInt) n k a 0 h → uOk (m_X12_families_55 c45 fuel σ l1 l2 l3) Q := by
  have hn := hB.1
  intro r
  induction r with
  | zero =>
    intro fuel a σ h l3 hf hr h3 hF hS hC
    cases fuel with
    | zero => omega
    | succ fuel =>
      show uOk (m_X12_families_55_s c45 _ σ l1 l2 l3) Q
      unfold m_X12_families_55_s
      exact ok_ite (fun _ => ok_l fun v ev => kk σ h hF hS (MIf.round eNr_s (b := 0) (by rw [show a = n by omega] at hC; exact hC)) v (by rw [ev, z_add1 (by omega), h2]; rfl)) (fun q => absurd (z_le.mpr (by rw [hS.1.1, h3]; omega)) q)
  | succ r ih =>
    intro fuel a σ h l3 hf hr h3 hF hS hC
    cases fuel with
    | zero => omega
    | succ fuel =>
      show uOk (m_X12_families_55_s c45 _ σ l1 l2 l3) Q
      unfold m_X12_families_55_s
      refine ok_ite (fun q => absurd (z_le.mp q) (by rw [hS.1.1, h3]; omega)) (fun _ => ?_)
      refine m_fam66 hB hK h1 (by omega) h3 σ (fun σ' h' hF' hS' hC' v hv => ?_) a FV 0 σ h 0 (FV_big (by omega)) (by omega) rfl frM.rf hS hC
      exact ih fuel (a + 1) σ' h' v (by omega) (by omega) hv (hF.tr hF') hS' hC'
theorem m_fam45 (hB : NB n c P L) (hK : KB K) (h1 : 0 ≤ l1.toInt) :
    ∀ (r fuel k : Nat) (σ : SG) (h : Nat → Nat) (l2 : Int32), r < fuel → k + r = n → l2.toInt = k → MFs n c P L K h σ → MIf (eNr c P L K l1.toInt) n k 0 0 h → uOk (m_X12_families_45 fuel σ l1 l2) (fun v σ' => frM [9, 6] σ σ' ∧ ∃ f, HFm (eNr c P L K l1.toInt) n f ∧ v.toInt = fixN f n ∧ FmM n (fun t => (f t : Int)) σ') := by
  have hn := hB.1
  intro r
  induction r with
  | zero =>
    intro fuel k σ h l2 hf hr h2 hS hC
    cases fuel with
    | zero => omega
    | succ fuel =>
      show uOk (m_X12_families_45_s _ σ l1 l2) _
      unfold m_X12_families_45_s
      refine ok_ite (fun _ => ?_) (fun q => absurd (z_le.mpr (by rw [hS.1.1, h2]; omega)) q)
      refine (m_fam204 hn hS.1.1 hS.2.2.2 n FV 0 0 0 (FV_big (by omega)) (by omega) rfl rfl).mono (fun v s hv => ?_)
      obtain ⟨rfl, hv⟩ := hv
      exact ⟨frM.rf, h, MIf.fin eNr_s (a := 0) (b := 0) (by rw [show k = n by omega] at hC; exact hC), hv, hS.2.2⟩
  | succ r ih =>
    intro fuel k σ h l2 hf hr h2 hS hC
    cases fuel with
    | zero => omega
    | succ fuel =>
      show uOk (m_X12_families_45_s _ σ l1 l2) _
      unfold m_X12_families_45_s
      refine ok_ite (fun q => absurd (z_le.mp q) (by rw [hS.1.1, h2]; omega)) (fun _ => ?_)
      refine m_fam55 hB hK h1 h2 (by omega) σ (fun σ' h' hF' hS' hC' v hv => ?_) n FV 0 σ h 0 (FV_big (by omega)) (by omega) rfl frM.rf hS hC
      exact (ih fuel (k + 1) σ' h' v (by omega) (by omega) hv hS' hC').mono (fun _ s h9 => ⟨hF'.tr h9.1, h9.2⟩)
theorem m_fam22 (hB : NB n c P L) (hK : KB K) (h1 : 0 ≤ l1.toInt) :
    ∀ (r fuel k : Nat) (σ : SG) (l2 : Int32), r < fuel → k + r = n → l2.toInt = k → uNM n c P L σ → uKM K σ → (σ.1 0 40).toInt = n → (∀ t, t < k → (σ.1 23 t).toInt = t) → uOk (m_X12_families_22 fuel σ l1 l2) (fun v σ' => frM [9, 6] σ σ' ∧ ∃ f, HFm (eNr c P L K l1.toInt) n f ∧ v.toInt = fixN f n ∧ FmM n (fun t => (f t : Int)) σ') := by
  have hn := hB.1
  intro r
  induction r with
  | zero =>
    intro fuel k σ l2 hf hr h2 hM hKM h15 hd
    cases fuel with
    | zero => omega
    | succ fuel =>
      show uOk (m_X12_families_22_s _ σ l1 l2) _
      unfold m_X12_families_22_s
      refine ok_ite (fun _ => ?_) (fun q => absurd (z_le.mpr (by rw [hM.1, h2]; omega)) q)
      exact m_fam45 hB hK h1 n FV 0 σ (fun t => t) 0 (FV_big (by omega)) (by omega) rfl ⟨hM, hKM, h15, fun t ht => hd t (by omega)⟩ ⟨fun t ht => ⟨Nat.le_refl _, Con.rf⟩, fun r hr t ht hc => hc, fun x y hxy hx hp => by omega⟩
  | succ r ih =>
    intro fuel k σ l2 hf hr h2 hM hKM h15 hd
    cases fuel with
    | zero => omega
    | succ fuel =>
      show uOk (m_X12_families_22_s _ σ l1 l2) _
      unfold m_X12_families_22_s
      rw [z_nv h2]
      refine ok_ite (fun q => absurd (z_le.mp q) (by rw [hM.1, h2]; omega)) (fun _ => ok_i (by omega) (ok_l fun s es => ok_l fun v ev => ?_))
      have hF : frM [9, 6] σ s := by rw [es]; exact frM.rf.sI (by show (6 : Nat) ∈ _; decide)
      refine (ih fuel (k + 1) s v (by omega) (by omega) (by rw [ev, z_add1 (by omega), h2]; rfl) (hM.fr hF (by decide)) (hKM.fr hF (by decide)) (by rw [es, g_sI, if_neg (by omega)]; exact h15) (fun t ht => ?_)).mono (fun _ s' h => ⟨hF.tr h.1, h.2⟩)
      rw [es, g_sI]
      by_cases e : t = k
      · rw [if_pos ⟨rfl, e⟩, e]; exact h2
      · rw [if_neg (fun z => e z.2)]; exact hd t (by omega)
end MF
theorem m_families {n : Nat} {c : Nat → Nat} {P L : Nat → Nat → Int} {K : Nat → Int} {k : Nat} {h : Nat → Int} {σ : SG} {p0 : Int32} (hB : NB n c P L) (hK : KB K) (hM0 : uNM n c P L σ) (hKM0 : uKM K σ) (hF0 : FmM k h σ) : uOk (m_X12_families σ p0) (fun v σ' => frM [11, 9, 6] σ σ' ∧ (p0.toInt < 0 → v = -2 ∧ FmM k h σ') ∧ (0 ≤ p0.toInt → ∃ f, HFm (eNr c P L K p0.toInt) n f ∧ v.toInt = fixN f n ∧ FmM n (fun t => (f t : Int)) σ')) := by
  have k0 : ((0 : Int32)).toInt = 0 := rfl
  have hn := hB.1
  unfold m_X12_families m_X12_families_0
  refine ok_l fun s0 e0 => ?_
  have hF : frM [11, 9, 6] σ s0 := by rw [e0]; exact m_code.wk (by simp)
  have hM : uNM n c P L s0 := by rw [e0]; exact hM0.fr m_code (by decide)
  have hKM : uKM K s0 := by rw [e0]; exact hKM0.fr m_code (by decide)
  have hFm : FmM k h s0 := by rw [e0]; exact hF0.fr m_code (by decide)
  refine ok_ite (fun q => ok_l fun s es => ?_) (fun q => ok_r ⟨hF, fun _ => ⟨rfl, hFm⟩, fun z => absurd (z_le.mpr (by rw [k0]; exact z)) q⟩)
  rw [z_le, k0] at q
  have hF1 : frM [9, 6] s0 s := by rw [es]; exact frM.rf.sI (by show (6 : Nat) ∈ _; decide)
  have hM1 := hM.fr hF1 (by decide)
  exact (m_fam22 hB hK q n FV 0 s 0 (FV_big (by omega)) (by omega) rfl hM1 (hKM.fr hF1 (by decide)) (by rw [es, g_sI_s]; exact hM.1) (fun t ht => by omega)).mono (fun v s' h9 => ⟨hF.tr ((hF1.tr h9.1).wk (by simp)), fun z => by omega, fun _ => h9.2⟩)
