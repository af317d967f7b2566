/-! ===== the class's ways ===== -/
def fr1 (lo hi : Nat) (σ σ' : SG) : Prop := (∀ k i, (k < lo ∨ hi ≤ k) → σ'.1 k i = σ.1 k i) ∧ σ'.2 = σ.2
theorem fr1.rf {lo hi : Nat} {σ : SG} : fr1 lo hi σ σ := ⟨fun _ _ _ => rfl, rfl⟩
theorem fr1.tr {lo hi : Nat} {σ σ1 σ2 : SG} (h : fr1 lo hi σ σ1) (q : fr1 lo hi σ1 σ2) : fr1 lo hi σ σ2 := ⟨fun k i z => (q.1 k i z).trans (h.1 k i z), q.2.trans h.2⟩
theorem fr1.sI {lo hi : Nat} {σ σ1 : SG} {k i : Nat} {x : Int32} (h : fr1 lo hi σ σ1) (q : lo ≤ k ∧ k < hi) : fr1 lo hi σ (sI σ1 k i x) := ⟨fun k' i' z => by rw [g_sI, if_neg (by omega)]; exact h.1 k' i' z, h.2⟩
theorem fr1.X {lo hi : Nat} {G : List Nat} {σ σ1 : SG} (h : fr1 lo hi σ σ1) (q : ∀ k i, lo ≤ k → k < hi → rgX k i ∈ G) : frX G σ σ1 :=
  ⟨fun k i z => h.1 k i (by
    by_cases a : lo ≤ k ∧ k < hi
    · exact absurd (q k i a.1 a.2) z
    · omega), fun k i _ => by rw [h.2], by rw [h.2]⟩
def WXd (d : WD) (r0 r1 : Nat) (lim : Int) (σ : SG) : Prop := (r0 < 9 ∧ r1 < 9 ∧ wn d ≤ rcap r0 ∧ wm d ≤ rcap r1) ∧ ((σ.1 (156 + r0) 2).toInt = wn d ∧ (σ.1 (156 + r1) 2).toInt = wm d) ∧ (∀ i, i < wn d → (σ.1 (2 * r0) i).toInt = wpa d i ∧ (σ.1 (2 * r0 + 1) i).toInt = wla d i) ∧ (∀ j, j < wm d → (σ.1 (2 * r1) j).toInt = wpb d j ∧ (σ.1 (2 * r1 + 1) j).toInt = wlb d j) ∧
  ((σ.1 206 4).toInt = wK d 0 * 32 ∧ (σ.1 206 5).toInt = wK d 4 * 32 ∧ (σ.1 206 6).toInt = wK d 1 * 32 ∧ (σ.1 206 7).toInt = wK d 2 * 32 ∧ (σ.1 206 8).toInt = wK d 3 * 32 ∧ (σ.1 206 9).toInt = lim) ∧ lim ≤ 98304063
theorem WXd.fr {d : WD} {r0 r1 lo hi : Nat} {lim : Int} {σ σ' : SG} (h : WXd d r0 r1 lim σ) (f : fr1 lo hi σ σ') (q : 18 ≤ lo) (q2 : hi ≤ 156) : WXd d r0 r1 lim σ' := by
  obtain ⟨⟨h1, h2, h3, h4⟩, ⟨h5, h6⟩, h7, h8, ⟨h9, h10, h11, h12, h13, h14⟩, h15⟩ := h
  refine ⟨⟨h1, h2, h3, h4⟩, ⟨by rw [f.1 _ _ (by omega)]; exact h5, by rw [f.1 _ _ (by omega)]; exact h6⟩, fun i hi => by rw [f.1 _ _ (by omega), f.1 _ _ (by omega)]; exact h7 i hi, fun j hj => by rw [f.1 _ _ (by omega), f.1 _ _ (by omega)]; exact h8 j hj, ⟨?_, ?_, ?_, ?_, ?_, ?_⟩, h15⟩
  all_goals rw [f.1 206 _ (by omega)]; assumption
def Xv (σ : SG) (i j : Nat) : Int := (σ.1 (41 + i) j).toInt
def uPX (d : WD) (σ : SG) : Prop := ∀ i j, i < wn d → j < wm d → (σ.1 (66 + i) j).toInt = 32 * wpr d i j
theorem uPX.fr {d : WD} {σ σ' : SG} (h : uPX d σ) (f : fr1 41 66 σ σ') : uPX d σ' := fun i j hi hj => by rw [f.1 _ _ (by omega)]; exact h i j hi hj
/-- cells only fall, and only where a step from (i, j) leads -/
def uOff (d : WD) (h : Int) (i j : Nat) (σ σ' : SG) : Prop := fr1 41 66 σ σ' ∧ ∀ x y, x ≤ wn d → y ≤ wm d → Xv σ' x y ≤ Xv σ x y ∧ (Xv σ' x y = Xv σ x y ∨ ∃ c, uStp d i j x y c ∧ Xv σ' x y = h + 32 * c)
theorem uOff.rf {d : WD} {h : Int} {i j : Nat} {σ : SG} : uOff d h i j σ σ := ⟨fr1.rf, fun _ _ _ _ => ⟨Int.le_refl _, Or.inl rfl⟩⟩
theorem uOff.tr {d : WD} {h : Int} {i j : Nat} {σ σ1 σ2 : SG} (a : uOff d h i j σ σ1) (b : uOff d h i j σ1 σ2) : uOff d h i j σ σ2 := ⟨a.1.tr b.1, fun x y hx hy => by
  have h1 := a.2 x y hx hy
  have h2 := b.2 x y hx hy
  refine ⟨Int.le_trans h2.1 h1.1, ?_⟩
  rcases h2.2 with h2 | h2
  · rw [h2]; exact h1.2
  · exact Or.inr h2⟩
theorem uOff.same {d : WD} (hB : WB d) {h : Int} {i j : Nat} {σ σ1 : SG} (a : uOff d h i j σ σ1) {x y : Nat} (hx : x ≤ wn d) (hy : y ≤ wm d) (q : x < i ∨ y < j ∨ (x ≤ i ∧ y ≤ j)) : Xv σ1 x y = Xv σ x y := by
  rcases (a.2 x y hx hy).2 with h1 | ⟨c, hc, -⟩
  · exact h1
  · have := hc.b hB
    omega
theorem x_offer {d : WD} (hB : WB d) {h : Int} {i j x y : Nat} {c : Int} {σ : SG} {p0 p1 p2 : Int32} (q : uStp d i j x y c) (hx : x ≤ wn d) (hy : y ≤ wm d) (h0 : p0.toInt = x) (h1 : p1.toInt = y) (h2 : p2.toInt = h + 32 * c) : uOk (m_X8_offer σ p0 p1 p2) (fun _ σ' => uOff d h i j σ σ' ∧ Xv σ' x y ≤ h + 32 * c) := by
  have b1 := hB.1
  have b2 := hB.2.1
  unfold m_X8_offer m_X8_offer_0
  rw [z_nv h0, z_nv h1]
  refine ok_i (by omega) (ok_i (by omega) (ok_ite (fun g => ok_r ⟨uOff.rf, by rw [z_le, h2] at g; exact g⟩) (fun g => ok_i (by omega) (ok_i (by omega) (ok_l fun s e => ok_r ⟨⟨by rw [e]; exact fr1.rf.sI (by omega), fun x' y' hx' hy' => ?_⟩, by unfold Xv; rw [e, g_sI_s, h2]; exact Int.le_refl _⟩)))))
  rw [z_le, h2] at g
  unfold Xv
  rw [e, g_sI]
  by_cases a : 41 + x' = 41 + x ∧ y' = y
  · rw [if_pos a, h2, a.1, a.2, show x' = x by omega]
    exact ⟨by omega, Or.inr ⟨c, q, rfl⟩⟩
  · rw [if_neg a]
    exact ⟨Int.le_refl _, Or.inl rfl⟩
theorem wsb_m {d : WD} (h : WB d) {i j : Nat} (hi : i < wn d) {k q : Nat} (hk : k ≤ q) (hq : j + q ≤ wm d) : uwsb d i j k ≤ uwsb d i j q := by
  induction q with
  | zero => rw [show k = 0 by omega]; exact Int.le_refl _
  | succ q ih =>
    by_cases e : k = q + 1
    · rw [e]; exact Int.le_refl _
    · have h1 := ih (by omega) (by omega)
      have h2 := wpr_b h hi (j := j + q) (by omega)
      show _ ≤ uwsb d i j q + wpr d i (j + q)
      omega
theorem wsa_m {d : WD} (h : WB d) {i j : Nat} (hj : j < wm d) {k q : Nat} (hk : k ≤ q) (hq : i + q ≤ wn d) : wsa d i j k ≤ wsa d i j q := by
  induction q with
  | zero => rw [show k = 0 by omega]; exact Int.le_refl _
  | succ q ih =>
    by_cases e : k = q + 1
    · rw [e]; exact Int.le_refl _
    · have h1 := ih (by omega) (by omega)
      have h2 := wpr_b h (i := i + q) (by omega) hj
      show _ ≤ wsa d i j q + wpr d (i + q) j
      omega
theorem x_sB {d : WD} {r0 r1 : Nat} {lim h : Int} {i j : Nat} (hB : WB d) (hi : i < wn d) (hj : j < wm d) (hh0 : 0 ≤ h) (hh : h ≤ lim) {l9 : Int32} (h9 : l9.toInt = if (j : Int) + 4 < wm d then (j : Int) + 4 else wm d) :
    ∀ (r fuel k : Nat) (σ : SG) (l7 l8 l10 : Int32), r < fuel → k + r = 4 → WXd d r0 r1 lim σ → uPX d σ → l10.toInt = (j + k : Nat) → j + k ≤ wm d → l7.toInt = h + 32 * uwsb d i j k → l8.toInt = wla d i - wlbs d j k → (∀ q, 1 ≤ q → q ≤ k → h + 32 * ucB d i j q ≤ lim → Xv σ (i + 1) (j + q) ≤ h + 32 * ucB d i j q) →
      uOk (m_X8_stepWithSeveralOfB_54 r0 r1 fuel σ i (i + 1) l7 l8 l9 l10) (fun _ σ' => uOff d h i j σ σ' ∧ ∀ q, 1 ≤ q → q ≤ 4 → j + q ≤ wm d → h + 32 * ucB d i j q ≤ lim → Xv σ' (i + 1) (j + q) ≤ h + 32 * ucB d i j q) := by
  have b1 := hB.1
  have b2 := hB.2.1
  intro r
  induction r with
  | zero =>
    intro fuel k σ l7 l8 l10 hf hr hW hP h10 hk h7 h8 hd
    cases fuel with
    | zero => omega
    | succ fuel =>
      show uOk (m_X8_stepWithSeveralOfB_54_s r0 r1 _ σ i (i + 1) l7 l8 l9 l10) _
      unfold m_X8_stepWithSeveralOfB_54_s
      exact ok_ite (fun _ => ok_r ⟨uOff.rf, fun q q1 q2 _ => hd q q1 (by omega)⟩) (fun q => absurd (z_le.mpr (by rw [h9, h10]; split <;> omega)) q)
  | succ r ih =>
    intro fuel k σ l7 l8 l10 hf hr hW hP h10 hk h7 h8 hd
    cases fuel with
    | zero => omega
    | succ fuel =>
      show uOk (m_X8_stepWithSeveralOfB_54_s r0 r1 _ σ i (i + 1) l7 l8 l9 l10) _
      unfold m_X8_stepWithSeveralOfB_54_s
      obtain ⟨⟨g1, g2, g3, g4⟩, ⟨g5, g6⟩, g7, g8, ⟨g9, g10, g11, g12, g13, g14⟩, g15⟩ := id hW
      refine ok_ite (fun q => ok_r ⟨uOff.rf, fun q' q1 q2 q3 => hd q' q1 (by rw [z_le, h9, h10] at q; split at q <;> omega)⟩) (fun q => ok_ite (fun q2 => ok_r ⟨uOff.rf, fun q' q1 q4 q3 hl => ?_⟩) (fun q2 => ?_))
      · by_cases hq : q' ≤ k
        · exact hd q' q1 hq hl
        · rw [z_lt, g14, h7] at q2
          have m1 := wsb_m hB hi (j := j) (k := k) (q := q') (by omega) q3
          have m2 := cB_b hB (j := j) hi q3 q4
          omega
      · rw [z_le, h9, h10] at q
        rw [z_lt, g14, h7] at q2
        have hjk : j + k < wm d := by split at q <;> omega
        have pp := hP i (j + k) hi hjk
        have wp := wpr_b hB hi hjk
        have uws := wsb_b hB (i := i) (j := j) hi k (by omega)
        have wl := wlbs_b hB (j := j) k (by omega)
        have wl' := wlbs_b hB (j := j) (k + 1) (by omega)
        have la := hB.2.2.1 i hi
        have lb := g8 (j + k) hjk
        have lbb := hB.2.2.2.1 (j + k) hjk
        have sk : uwsb d i j (k + 1) = uwsb d i j k + wpr d i (j + k) := rfl
        have lk : wlbs d j (k + 1) = wlbs d j k + wlb d (j + k) := rfl
        have lx := (lenX_row g2).2
        rw [z_nv h10, lx]
        refine ok_i (by omega) (ok_l fun v18 e18 => ok_i (by omega) (ok_l fun v21 e21 => ok_l fun v23 e23 => ok_l fun v25 e25 => ?_))
        have h18 : v18.toInt = h + 32 * uwsb d i j (k + 1) := by rw [e18, z_addv h7 pp (by omega) (by omega), sk]; omega
        have h21 : v21.toInt = wla d i - wlbs d j (k + 1) := by rw [e21, z_subv h8 lb.2 (by omega) (by omega), lk]; omega
        have h23 : v23.toInt = zabs (wla d i - wlbs d j (k + 1)) := by rw [e23]; exact z_absv h21 (by omega)
        have zb := zabs_b (x := wla d i - wlbs d j (k + 1)) (b := 256) (by omega) (by omega)
        have k1 := hB.2.2.2.2.1 1 (by omega)
        have mb := mul_b k1.1 k1.2 zb.1 zb.2
        have em : (wK d 1 * 32) * zabs (wla d i - wlbs d j (k + 1)) = 32 * (wK d 1 * zabs (wla d i - wlbs d j (k + 1))) := by rw [Int.mul_comm (wK d 1) 32, Int.mul_assoc]
        have h25 : v25.toInt = h + 32 * ucB d i j (k + 1) := by
          rw [e25, z_addv h18 (z_mulv g11 h23 (by omega) (by omega)) (by omega) (by omega), em]
          unfold ucB
          omega
        have e11 : (l10 + 1).toInt = (j + (k + 1) : Nat) := by rw [z_add1 (by omega), h10]; omega
        rw [z_nv e11]
        have hs : uStp d i j (i + 1) (j + (k + 1)) (ucB d i j (k + 1)) := Or.inr (Or.inr (Or.inl ⟨k + 1, by omega, by omega, hi, by omega, rfl, rfl, rfl⟩))
        have nxt : ∀ s, uOff d h i j σ s → Xv s (i + 1) (j + (k + 1)) ≤ h + 32 * ucB d i j (k + 1) → uOk (m_X8_stepWithSeveralOfB_128 r0 r1 (m_X8_stepWithSeveralOfB_54 r0 r1 fuel) s i (i + 1) v18 v21 l9 l10) (fun _ σ' => uOff d h i j σ σ' ∧ ∀ q, 1 ≤ q → q ≤ 4 → j + q ≤ wm d → h + 32 * ucB d i j q ≤ lim → Xv σ' (i + 1) (j + q) ≤ h + 32 * ucB d i j q) := fun s ho hle => by
          unfold m_X8_stepWithSeveralOfB_128
          refine ok_l fun v32 e32 => ?_
          refine (ih fuel (k + 1) s v18 v21 v32 (by omega) (by omega) (hW.fr ho.1 (by omega) (by omega)) (hP.fr ho.1) (by rw [e32, e11]) (by omega) h18 h21 (fun q' q1 q3 hl => ?_)).mono (fun _ s' h' => ⟨ho.tr h'.1, h'.2⟩)
          by_cases hq : q' = k + 1
          · rw [hq]; exact hle
          · exact Int.le_trans (ho.2 (i + 1) (j + q') (by omega) (by omega)).1 (hd q' q1 (by omega) hl)
        refine ok_i (by omega) (ok_ite (fun q3 => nxt σ uOff.rf (by rw [z_le, h25] at q3; exact q3)) (fun q3 => ok_i (by omega) (ok_l fun s es => nxt s ⟨by rw [es]; exact fr1.rf.sI (by omega), fun x y hx hy => ?_⟩ (by unfold Xv; rw [es, g_sI_s, h25]; exact Int.le_refl _))))
        rw [z_le, h25] at q3
        unfold Xv
        rw [es, g_sI]
        by_cases a : 41 + x = 41 + (i + 1) ∧ y = j + (k + 1)
        · rw [if_pos a, h25, a.1, a.2, show x = i + 1 by omega]
          exact ⟨by omega, Or.inr ⟨_, hs, rfl⟩⟩
        · rw [if_neg a]
          exact ⟨Int.le_refl _, Or.inl rfl⟩
theorem x_sA {d : WD} {r0 r1 : Nat} {lim h : Int} {i j : Nat} (hB : WB d) (hi : i < wn d) (hj : j < wm d) (hh0 : 0 ≤ h) (hh : h ≤ lim) {l4 l7 : Int32} (h4 : l4.toInt = j) (h7 : l7.toInt = if (i : Int) + 4 < wn d then (i : Int) + 4 else wn d) :
    ∀ (r fuel k : Nat) (σ : SG) (l5 l6 l8 : Int32), r < fuel → k + r = 4 → 1 ≤ k → WXd d r0 r1 lim σ → uPX d σ → l8.toInt = (i + k : Nat) → i + k ≤ wn d → l5.toInt = h + 32 * wsa d i j k → l6.toInt = wlb d j - wlas d i k → (∀ q, 1 ≤ q → q ≤ k → h + 32 * cA d i j q ≤ lim → Xv σ (i + q) (j + 1) ≤ h + 32 * cA d i j q) →
      uOk (m_X8_stepWithSeveralOfA_54 r0 r1 fuel σ l4 l5 l6 l7 l8) (fun _ σ' => uOff d h i j σ σ' ∧ ∀ q, 1 ≤ q → q ≤ 4 → i + q ≤ wn d → h + 32 * cA d i j q ≤ lim → Xv σ' (i + q) (j + 1) ≤ h + 32 * cA d i j q) := by
  have b1 := hB.1
  have b2 := hB.2.1
  intro r
  induction r with
  | zero =>
    intro fuel k σ l5 l6 l8 hf hr hk1 hW hP h8 hk h5 h6 hd
    cases fuel with
    | zero => omega
    | succ fuel =>
      show uOk (m_X8_stepWithSeveralOfA_54_s r0 r1 _ σ l4 l5 l6 l7 l8) _
      unfold m_X8_stepWithSeveralOfA_54_s
      exact ok_ite (fun _ => ok_r ⟨uOff.rf, fun q q1 q2 _ => hd q q1 (by omega)⟩) (fun q => absurd (z_le.mpr (by rw [h7, h8]; split <;> omega)) q)
  | succ r ih =>
    intro fuel k σ l5 l6 l8 hf hr hk1 hW hP h8 hk h5 h6 hd
    cases fuel with
    | zero => omega
    | succ fuel =>
      show uOk (m_X8_stepWithSeveralOfA_54_s r0 r1 _ σ l4 l5 l6 l7 l8) _
      unfold m_X8_stepWithSeveralOfA_54_s
      obtain ⟨⟨g1, g2, g3, g4⟩, ⟨g5, g6⟩, g7, g8, ⟨g9, g10, g11, g12, g13, g14⟩, g15⟩ := id hW
      refine ok_ite (fun q => ok_r ⟨uOff.rf, fun q' q1 q2 q3 => hd q' q1 (by rw [z_le, h7, h8] at q; split at q <;> omega)⟩) (fun q => ok_ite (fun q2 => ok_r ⟨uOff.rf, fun q' q1 q4 q3 hl => ?_⟩) (fun q2 => ?_))
      · by_cases hq : q' ≤ k
        · exact hd q' q1 hq hl
        · rw [z_lt, g14, h5] at q2
          have m1 := wsa_m hB hj (i := i) (k := k) (q := q') (by omega) q3
          have m2 := cA_b hB (i := i) hj q3 q4
          omega
      · rw [z_le, h7, h8] at q
        rw [z_lt, g14, h5] at q2
        have hik : i + k < wn d := by split at q <;> omega
        have pp := hP (i + k) j hik hj
        have wp := wpr_b hB hik hj
        have uws := wsa_b hB (i := i) (j := j) hj k (by omega)
        have wl := wlas_b hB (i := i) k (by omega)
        have wl' := wlas_b hB (i := i) (k + 1) (by omega)
        have lb := hB.2.2.2.1 j hj
        have la := g7 (i + k) hik
        have laa := hB.2.2.1 (i + k) hik
        have sk : wsa d i j (k + 1) = wsa d i j k + wpr d (i + k) j := rfl
        have lk : wlas d i (k + 1) = wlas d i k + wla d (i + k) := rfl
        have lx := (lenX_row g1).2
        rw [z_nv h8, lx, z_nv h4]
        refine ok_i (by omega) (ok_i (by omega) (ok_l fun v22 e22 => ok_i (by omega) (ok_l fun v25 e25 => ok_l fun v27 e27 => ?_)))
        have h22 : v22.toInt = h + 32 * wsa d i j (k + 1) := by rw [e22, z_addv h5 pp (by omega) (by omega), sk]; omega
        have h25 : v25.toInt = wlb d j - wlas d i (k + 1) := by rw [e25, z_subv h6 la.2 (by omega) (by omega), lk]; omega
        have h27 : v27.toInt = zabs (wlas d i (k + 1) - wlb d j) := by
          rw [e27, z_absv h25 (by omega)]
          unfold zabs
          split <;> split <;> omega
        have zb := zabs_b (x := wlas d i (k + 1) - wlb d j) (b := 256) (by omega) (by omega)
        have k1 := hB.2.2.2.2.1 1 (by omega)
        have mb := mul_b k1.1 k1.2 zb.1 zb.2
        have em : (wK d 1 * 32) * zabs (wlas d i (k + 1) - wlb d j) = 32 * (wK d 1 * zabs (wlas d i (k + 1) - wlb d j)) := by rw [Int.mul_comm (wK d 1) 32, Int.mul_assoc]
        have hc : (v22 + σ.1 206 6 * v27).toInt = h + 32 * cA d i j (k + 1) := by
          rw [z_addv h22 (z_mulv g11 h27 (by omega) (by omega)) (by omega) (by omega), em]
          unfold cA
          omega
        have e81 : (l8 + 1).toInt = (i + (k + 1) : Nat) := by rw [z_add1 (by omega), h8]; omega
        have e41 : (l4 + 1).toInt = (j + 1 : Nat) := by rw [z_add1 (by omega), h4]; omega
        have hs : uStp d i j (i + (k + 1)) (j + 1) (cA d i j (k + 1)) := Or.inr (Or.inr (Or.inr ⟨k + 1, by omega, by omega, hj, by omega, rfl, rfl, rfl⟩))
        refine ok_b (x_offer hB hs (by omega) (by omega) e81 e41 hc) (fun _ s ho => ok_l fun v32 e32 => ?_)
        refine (ih fuel (k + 1) s v22 v25 v32 (by omega) (by omega) (by omega) (hW.fr ho.1.1 (by omega) (by omega)) (hP.fr ho.1.1) (by rw [e32, e81]) (by omega) h22 h25 (fun q' q1 q3 hl => ?_)).mono (fun _ s' h' => ⟨ho.1.tr h'.1, h'.2⟩)
        by_cases hq : q' = k + 1
        · rw [hq]; exact ho.2
        · exact Int.le_trans (ho.1.2 (i + q') (j + 1) (by omega) (by omega)).1 (hd q' q1 (by omega) hl)
/-- after stepOn at (i, j): all its steps were offered -/
def Stepped (d : WD) (lim h : Int) (i j : Nat) (σ σ' : SG) : Prop := uOff d h i j σ σ' ∧ ∀ x y c, uStp d i j x y c → h + 32 * c ≤ lim → Xv σ' x y ≤ h + 32 * c
theorem c1_eq {d : WD} {i j : Nat} : cA d i j 1 = ucB d i j 1 := by
  unfold cA ucB
  have e1 : wlas d i 1 = wla d i := by show (0 : Int) + wla d (i + 0) = _; simp
  have e2 : wlbs d j 1 = wlb d j := by show (0 : Int) + wlb d (j + 0) = _; simp
  have e3 : wsa d i j 1 = wpr d i j := by show (0 : Int) + wpr d (i + 0) j = _; simp
  have e4 : uwsb d i j 1 = wpr d i j := by show (0 : Int) + wpr d i (j + 0) = _; simp
  rw [e1, e2, e3, e4]
theorem x_stepOn {d : WD} {r0 r1 : Nat} {lim : Int} {i j : Nat} {σ : SG} {l3 l4 : Int32} (hB : WB d) (hW : WXd d r0 r1 lim σ) (hP : uPX d σ) (hi : i ≤ wn d) (hj : j ≤ wm d) (h3 : l3.toInt = i) (h4 : l4.toInt = j) (hh0 : 0 ≤ Xv σ i j) (hh : Xv σ i j ≤ lim) : uOk (m_X8_stepOn r0 r1 σ l3 l4) (fun _ σ' => Stepped d lim (Xv σ i j) i j σ σ') := by
  have b1 := hB.1
  have b2 := hB.2.1
  have k0 : ((0 : Int32)).toInt = 0 := rfl
  have kn4 : ((4 : Int32)).toInt = 4 := rfl
  obtain ⟨⟨g1, g2, g3, g4⟩, ⟨g5, g6⟩, g7, g8, ⟨g9, g10, g11, g12, g13, g14⟩, g15⟩ := id hW
  have lx1 := lenX_row g1
  have lx2 := lenX_row g2
  -- the last part: several of B, several of A
  have p99 : ∀ (s : SG) (l6 l7 : Int32), (l6 = 0 ↔ ¬ i < wn d) → (l7 = 0 ↔ ¬ j < wm d) → uOff d (Xv σ i j) i j σ s → (i < wn d → Xv σ i j + 32 * (wK d 2 * wla d i) ≤ lim → Xv s (i + 1) j ≤ Xv σ i j + 32 * (wK d 2 * wla d i)) → (j < wm d → Xv σ i j + 32 * (wK d 3 * wlb d j) ≤ lim → Xv s i (j + 1) ≤ Xv σ i j + 32 * (wK d 3 * wlb d j)) → uOk (m_X8_stepOn_99 r0 r1 s l3 l4 l6 l7) (fun _ σ' => Stepped d lim (Xv σ i j) i j σ σ') := by
    intro s l6 l7 h6 h7 ho ha hb
    have no : (¬ i < wn d ∨ ¬ j < wm d) → Stepped d lim (Xv σ i j) i j σ s := fun hn => ⟨ho, fun x y c hs hl => by
      rcases hs with ⟨q1, rfl, rfl, rfl⟩ | ⟨q1, rfl, rfl, rfl⟩ | ⟨q, q1, q2, q3, q4, q5, q6, q7⟩ | ⟨q, q1, q2, q3, q4, q5, q6, q7⟩
      · exact ha q1 hl
      · exact hb q1 hl
      · omega
      · omega⟩
    unfold m_X8_stepOn_99
    refine ok_ite (fun q => ok_r (no (Or.inl (h6.mp q)))) (fun q => ok_ite (fun q2 => ok_r (no (Or.inr (h7.mp q2)))) (fun q2 => ?_))
    have hin : i < wn d := Classical.not_not.mp (fun z => q (h6.mpr z))
    have hjm : j < wm d := Classical.not_not.mp (fun z => q2 (h7.mpr z))
    have hWs := hW.fr ho.1 (by omega) (by omega)
    have hPs := hP.fr ho.1
    obtain ⟨-, ⟨s5, s6⟩, s7, s8, ⟨s9, s10, s11, s12, s13, s14⟩, -⟩ := id hWs
    have hX : Xv s i j = Xv σ i j := ho.same hB hi hj (by omega)
    refine ok_b (Q := fun _ s' => uOff d (Xv σ i j) i j s s' ∧ ∀ q, 1 ≤ q → q ≤ 4 → j + q ≤ wm d → Xv σ i j + 32 * ucB d i j q ≤ lim → Xv s' (i + 1) (j + q) ≤ Xv σ i j + 32 * ucB d i j q) ?_ (fun _ s1 h1 => ?_)
    · unfold m_X8_stepWithSeveralOfB m_X8_stepWithSeveralOfB_0
      have e31 : (l3 + 1).toInt = (i + 1 : Nat) := by rw [z_add1 (by omega), h3]; omega
      have e44 : (l4 + 4).toInt = (j : Int) + 4 := z_addv h4 kn4 (by omega) (by omega)
      rw [z_nv h3, z_nv e31, z_nv h4, lx1.2]
      refine ok_i (by omega) (ok_i (by omega) (ok_i (by omega) (ok_i (by omega) (ok_l fun v8 e8 => ok_i (by omega) (ok_l fun v11 e11 => ok_l fun v13 e13 => ?_)))))
      refine x_sB hB hin hjm hh0 hh (by rw [e13]; exact z_minv e44 s6) 4 FV 0 s v8 v11 l4 (FV_big (by omega)) (by omega) hWs hPs (by omega) (by omega) ?_ ?_ (fun q q1 q2 => by omega)
      · rw [e8]
        show Xv s i j = _ + 32 * 0
        rw [hX]
        omega
      · rw [e11, (s7 i hin).2]
        show _ = _ - (0 : Int)
        omega
    · have ho1 := ho.tr h1.1
      have hW1 := hW.fr ho1.1 (by omega) (by omega)
      have hP1 := hP.fr ho1.1
      obtain ⟨-, ⟨t5, t6⟩, t7, t8, ⟨t9, t10, t11, t12, t13, t14⟩, -⟩ := id hW1
      have hX1 : Xv s1 i j = Xv σ i j := ho1.same hB hi hj (by omega)
      have wp := wpr_b hB hin hjm
      have la := hB.2.2.1 i hin
      have lb := hB.2.2.2.1 j hjm
      refine ok_b (Q := fun _ s' => uOff d (Xv σ i j) i j s1 s' ∧ ∀ q, 1 ≤ q → q ≤ 4 → i + q ≤ wn d → Xv σ i j + 32 * cA d i j q ≤ lim → Xv s' (i + q) (j + 1) ≤ Xv σ i j + 32 * cA d i j q) ?_ (fun _ s2 h2 => ok_r ⟨ho1.tr h2.1, fun x y c hs hl => ?_⟩)
      · unfold m_X8_stepWithSeveralOfA m_X8_stepWithSeveralOfA_0
        have e31 : (l3 + 1).toInt = (i + 1 : Nat) := by rw [z_add1 (by omega), h3]; omega
        have e34 : (l3 + 4).toInt = (i : Int) + 4 := z_addv h3 kn4 (by omega) (by omega)
        rw [z_nv h3, z_nv h4, lx1.2, lx2.2]
        refine ok_i (by omega) (ok_i (by omega) (ok_i (by omega) (ok_i (by omega) (ok_l fun v7 e7 => ok_i (by omega) (ok_i (by omega) (ok_l fun v11 e11 => ok_l fun v13 e13 => ok_l fun v15 e15 => ?_))))))
        refine x_sA hB hin hjm hh0 hh h4 (by rw [e13]; exact z_minv e34 t5) 3 FV 1 s1 v7 v11 v15 (FV_big (by omega)) (by omega) (by omega) hW1 hP1 (by rw [e15, e31]) (by omega) ?_ ?_ (fun q q1 q2 hl => ?_)
        · have hx1 : (s1.1 (41 + i) j).toInt = Xv σ i j := hX1
          have e1 : wsa d i j 1 = wpr d i j := by show (0 : Int) + wpr d (i + 0) j = _; simp
          rw [e7, z_addv hx1 (hP1 i j hin hjm) (by omega) (by omega), e1]
        · have e1 : wlas d i 1 = wla d i := by show (0 : Int) + wla d (i + 0) = _; simp
          rw [e11, z_subv (t8 j hjm).2 (t7 i hin).2 (by omega) (by omega), e1]
        · rw [show q = 1 by omega] at hl ⊢
          rw [c1_eq] at hl ⊢
          exact h1.2 1 (by omega) (by omega) (by omega) hl
      · rcases hs with ⟨q1, u1, u2, u3⟩ | ⟨q1, u1, u2, u3⟩ | ⟨q, q1, q2, q3, q4, rfl, rfl, rfl⟩ | ⟨q, q1, q2, q3, q4, rfl, rfl, rfl⟩
        · rw [u3] at hl
          rw [u1, u2, u3]
          have a1 := (h2.1.2 (i + 1) j (by omega) hj).1
          have a2 := (h1.1.2 (i + 1) j (by omega) hj).1
          have a3 := ha q1 hl
          omega
        · rw [u3] at hl
          rw [u1, u2, u3]
          have a1 := (h2.1.2 i (j + 1) hi (by omega)).1
          have a2 := (h1.1.2 i (j + 1) hi (by omega)).1
          have a3 := hb q1 hl
          omega
        · have a1 := (h2.1.2 (i + 1) (j + q) (by omega) (by omega)).1
          have a2 := h1.2 q q1 q2 q4 hl
          omega
        · exact h2.2 q q1 q2 q4 hl
  have p70 : ∀ (s : SG) (l5 l6 l7 : Int32), l5.toInt = Xv σ i j → (l6 = 0 ↔ ¬ i < wn d) → (l7 = 0 ↔ ¬ j < wm d) → uOff d (Xv σ i j) i j σ s → (i < wn d → Xv σ i j + 32 * (wK d 2 * wla d i) ≤ lim → Xv s (i + 1) j ≤ Xv σ i j + 32 * (wK d 2 * wla d i)) → uOk (m_X8_stepOn_70 r0 r1 s l3 l4 l5 l6 l7) (fun _ σ' => Stepped d lim (Xv σ i j) i j σ σ') := by
    intro s l5 l6 l7 h5 h6 h7 ho ha
    unfold m_X8_stepOn_70
    refine ok_ite (fun q => p99 s l6 l7 h6 h7 ho ha (fun z => absurd z (h7.mp q))) (fun q => ?_)
    have hjm : j < wm d := Classical.not_not.mp (fun z => q (h7.mpr z))
    have hWs := hW.fr ho.1 (by omega) (by omega)
    obtain ⟨-, ⟨s5, s6⟩, s7, s8, ⟨s9, s10, s11, s12, s13, s14⟩, -⟩ := id hWs
    have ab := alB_b hB hjm
    have em : (wK d 3 * 32) * wlb d j = 32 * (wK d 3 * wlb d j) := by rw [Int.mul_comm (wK d 3) 32, Int.mul_assoc]
    have e41 : (l4 + 1).toInt = (j + 1 : Nat) := by rw [z_add1 (by omega), h4]; omega
    rw [z_nv h4, lx2.2]
    have hc : (l5 + s.1 206 8 * s.1 (2 * r1 + 1) j).toInt = Xv σ i j + 32 * (wK d 3 * wlb d j) := by rw [z_addv h5 (z_mulv s13 (s8 j hjm).2 (by omega) (by omega)) (by omega) (by omega), em]
    refine ok_i (by omega) (ok_b (x_offer hB (Or.inr (Or.inl ⟨hjm, rfl, rfl, rfl⟩)) hi (by omega) h3 e41 hc) (fun _ s1 h1 => p99 s1 l6 l7 h6 h7 (ho.tr h1.1) (fun z hl => Int.le_trans (h1.1.2 (i + 1) j (by omega) hj).1 (ha z hl)) (fun _ _ => h1.2)))
  have p40 : ∀ (l5 l6 l7 : Int32), l5.toInt = Xv σ i j → (l6 = 0 ↔ ¬ i < wn d) → (l7 = 0 ↔ ¬ j < wm d) → uOk (m_X8_stepOn_40 r0 r1 σ l3 l4 l5 l6 l7) (fun _ σ' => Stepped d lim (Xv σ i j) i j σ σ') := by
    intro l5 l6 l7 h5 h6 h7
    unfold m_X8_stepOn_40
    refine ok_ite (fun q => p70 σ l5 l6 l7 h5 h6 h7 uOff.rf (fun z => absurd z (h6.mp q))) (fun q => ?_)
    have hin : i < wn d := Classical.not_not.mp (fun z => q (h6.mpr z))
    have ab := alA_b hB hin
    have em : (wK d 2 * 32) * wla d i = 32 * (wK d 2 * wla d i) := by rw [Int.mul_comm (wK d 2) 32, Int.mul_assoc]
    have e31 : (l3 + 1).toInt = (i + 1 : Nat) := by rw [z_add1 (by omega), h3]; omega
    rw [z_nv h3, lx1.2]
    have hc : (l5 + σ.1 206 7 * σ.1 (2 * r0 + 1) i).toInt = Xv σ i j + 32 * (wK d 2 * wla d i) := by rw [z_addv h5 (z_mulv g12 (g7 i hin).2 (by omega) (by omega)) (by omega) (by omega), em]
    refine ok_i (by omega) (ok_b (x_offer hB (Or.inl ⟨hin, rfl, rfl, rfl⟩) (by omega) hj e31 h4 hc) (fun _ s1 h1 => p70 s1 l5 l6 l7 h5 h6 h7 h1.1 (fun _ _ => h1.2)))
  unfold m_X8_stepOn m_X8_stepOn_0
  rw [z_nv h3, z_nv h4]
  refine ok_i (by omega) (ok_i (by omega) (ok_l fun v4 e4 => ?_))
  have h5 : v4.toInt = Xv σ i j := by rw [e4]; rfl
  have p24 : ∀ l6 : Int32, (l6 = 0 ↔ ¬ i < wn d) → uOk (m_X8_stepOn_24 r0 r1 σ l3 l4 v4 l6) (fun _ σ' => Stepped d lim (Xv σ i j) i j σ σ') := fun l6 h6 => by
    unfold m_X8_stepOn_24
    refine ok_ite (fun q => p40 v4 l6 0 h5 h6 ?_) (fun q => p40 v4 l6 1 h5 h6 ?_)
    · rw [z_le, g6, h4] at q; simp; omega
    · rw [z_le, g6, h4] at q; simp; omega
  refine ok_ite (fun q => p24 0 ?_) (fun q => p24 1 ?_)
  · rw [z_le, g5, h3] at q; simp; omega
  · rw [z_le, g5, h3] at q; simp; omega
