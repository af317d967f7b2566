/-! ===== the class goes through the cells ===== -/
def Rch (d : WD) (S : Nat → Int → Prop) (x y : Nat) (v : Int) : Prop := ∃ p e c, S p e ∧ Pth d 0 p x y c ∧ v = e + 32 * c
def GI (d : WD) (S : Nat → Int → Prop) (lim : Int) (i j : Nat) (σ : SG) : Prop := (∀ x y, x ≤ wn d → y ≤ wm d → 0 ≤ Xv σ x y ∧ (Xv σ x y = 2147483647 ∨ Rch d S x y (Xv σ x y))) ∧ (∀ p e, S p e → p ≤ wm d ∧ Xv σ 0 p ≤ e) ∧
  ∀ x y, x ≤ wn d → y ≤ wm d → (x < i ∨ (x = i ∧ y < j)) → Xv σ x y ≤ lim → ∀ x' y' c, uStp d x y x' y' c → Xv σ x y + 32 * c ≤ lim → Xv σ x' y' ≤ Xv σ x y + 32 * c
theorem GI.skip {d : WD} {S : Nat → Int → Prop} {lim : Int} {i j : Nat} {σ : SG} (h : GI d S lim i j σ) (q : lim < Xv σ i j) : GI d S lim i (j + 1) σ := ⟨h.1, h.2.1, fun x y hx hy hxy hl => by
  by_cases e : x = i ∧ y = j
  · rw [e.1, e.2] at hl
    omega
  · exact h.2.2 x y hx hy (by omega) hl⟩
theorem GI.step {d : WD} (hB : WB d) {S : Nat → Int → Prop} {lim : Int} {i j : Nat} {σ σ' : SG} (hi : i ≤ wn d) (hj : j ≤ wm d) (hlim : lim < 2147483647) (h : GI d S lim i j σ) (q : Xv σ i j ≤ lim) (st : Stepped d lim (Xv σ i j) i j σ σ') : GI d S lim i (j + 1) σ' := by
  obtain ⟨h1, h2, h3⟩ := h
  obtain ⟨ho, hs⟩ := st
  have hr : Rch d S i j (Xv σ i j) := by
    rcases (h1 i j hi hj).2 with a | a
    · omega
    · exact a
  refine ⟨fun x y hx hy => ?_, fun p e hp => ⟨(h2 p e hp).1, Int.le_trans (ho.2 0 p (by omega) (h2 p e hp).1).1 (h2 p e hp).2⟩, fun x y hx hy hxy hl x' y' c hst hlc => ?_⟩
  · rcases (ho.2 x y hx hy).2 with a | ⟨c, hc, a⟩
    · rw [a]; exact h1 x y hx hy
    · have hb := hc.b hB
      have h0 := (h1 i j hi hj).1
      refine ⟨by omega, Or.inr ?_⟩
      obtain ⟨p, e, c0, r1, r2, r3⟩ := hr
      exact ⟨p, e, c0 + c, r1, r2.snoc hc, by omega⟩
  · have hb := hst.b hB
    have hsame : Xv σ' x y = Xv σ x y := ho.same hB hx hy (by omega)
    rw [hsame] at hl hlc ⊢
    by_cases e : x = i ∧ y = j
    · obtain ⟨rfl, rfl⟩ := e
      exact hs x' y' c hst hlc
    · exact Int.le_trans (ho.2 x' y' (hb.2.2.2.2.2.1 hx) (hb.2.2.2.2.2.2 hy)).1 (h3 x y hx hy (by omega) hl x' y' c hst hlc)
theorem GI.row {d : WD} {S : Nat → Int → Prop} {lim : Int} {i : Nat} {σ : SG} (h : GI d S lim i (wm d + 1) σ) : GI d S lim (i + 1) 0 σ := ⟨h.1, h.2.1, fun x y hx hy hxy => h.2.2 x y hx hy (by omega)⟩
/-- what the cells hold in the end -/
def GE (d : WD) (S : Nat → Int → Prop) (lim : Int) (σ : SG) : Prop := ∀ x y, x ≤ wn d → y ≤ wm d → 0 ≤ Xv σ x y ∧ (Xv σ x y = 2147483647 ∨ Rch d S x y (Xv σ x y)) ∧ ∀ v, Rch d S x y v → v ≤ lim → Xv σ x y ≤ v
theorem GI.fin {d : WD} (hB : WB d) {S : Nat → Int → Prop} {lim : Int} {σ : SG} (h : GI d S lim (wn d + 1) 0 σ) : GE d S lim σ := by
  obtain ⟨h1, h2, h3⟩ := h
  refine fun x y hx hy => ⟨(h1 x y hx hy).1, (h1 x y hx hy).2, fun v hv hl => ?_⟩
  obtain ⟨p, e, c, hS, ⟨k, hk⟩, rfl⟩ := hv
  induction k generalizing x y c with
  | zero =>
    obtain ⟨rfl, rfl, rfl⟩ := hk
    have := (h2 y e hS).2
    omega
  | succ k ih =>
    obtain ⟨x1, y1, c1, c2, g1, g2, rfl⟩ := hk
    have b := g2.b hB
    have := ih x1 y1 (by omega) (by omega) c1 g1 (by omega)
    have := h3 x1 y1 (by omega) (by omega) (by omega) (by omega) x y c2 g2 (by omega)
    omega
theorem x_go80 {d : WD} {r0 r1 : Nat} {S : Nat → Int → Prop} {lim : Int} (hB : WB d) {c68 : SG → Int32 → Option (Unit × SG)} {P : Unit → SG → Prop} {i : Nat} {l4 : Int32} (hi : i ≤ wn d) (h4 : l4.toInt = i) :
    ∀ (r fuel j : Nat) (σ : SG) (l5 : Int32), r < fuel → j + r = wm d + 1 → WXd d r0 r1 lim σ → uPX d σ → l5.toInt = j → GI d S lim i j σ → (∀ σ', fr1 41 66 σ σ' → GI d S lim (i + 1) 0 σ' → ∀ v : Int32, v.toInt = ((i + 1 : Nat) : Int) → uOk (c68 σ' v) P) → uOk (m_X8_goThrough_80 r0 r1 c68 fuel σ l4 l5) P := by
  have b1 := hB.1
  have b2 := hB.2.1
  intro r
  induction r with
  | zero =>
    intro fuel j σ l5 hf hr hW hP h5 hG kk
    cases fuel with
    | zero => omega
    | succ fuel =>
      show uOk (m_X8_goThrough_80_s r0 r1 c68 _ σ l4 l5) P
      unfold m_X8_goThrough_80_s
      refine ok_ite (fun _ => ok_l fun v ev => kk σ fr1.rf (GI.row (by rw [show wm d + 1 = j by omega]; exact hG)) v (by rw [ev, z_add1 (by omega), h4]; rfl)) (fun q => absurd (z_lt.mpr (by rw [hW.2.1.2, h5]; omega)) q)
  | succ r ih =>
    intro fuel j σ l5 hf hr hW hP h5 hG kk
    cases fuel with
    | zero => omega
    | succ fuel =>
      show uOk (m_X8_goThrough_80_s r0 r1 c68 _ σ l4 l5) P
      unfold m_X8_goThrough_80_s
      have hlim := hW.2.2.2.2.2
      have nxt : ∀ s, fr1 41 66 σ s → GI d S lim i (j + 1) s → uOk (m_X8_goThrough_116 r0 r1 c68 (m_X8_goThrough_80 r0 r1 c68 fuel) s l4 l5) P := fun s hF hg => by
        unfold m_X8_goThrough_116
        exact ok_l fun v ev => ih fuel (j + 1) s v (by omega) (by omega) (hW.fr hF (by omega) (by omega)) (hP.fr hF) (by rw [ev, z_add1 (by omega), h5]; rfl) hg (fun σ' f g => kk σ' (hF.tr f) g)
      refine ok_ite (fun q => absurd (z_lt.mp q) (by rw [hW.2.1.2, h5]; omega)) (fun _ => ok_i (by omega) (ok_i (by omega) ?_))
      rw [z_nv h4, z_nv h5]
      have hX : (σ.1 (41 + i) j).toInt = Xv σ i j := rfl
      refine ok_ite (fun q => nxt σ fr1.rf (hG.skip (by rw [z_lt, hW.2.2.2.2.1.2.2.2.2.2, hX] at q; exact q))) (fun q => ?_)
      rw [z_lt, hW.2.2.2.2.1.2.2.2.2.2, hX] at q
      exact ok_b (x_stepOn hB hW hP hi (by omega) h4 h5 (hG.1 i j hi (by omega)).1 (by omega)) (fun _ s hs => nxt s hs.1.1 (hG.step hB hi (by omega) (by omega) (by omega) hs))
theorem x_go68 {d : WD} {r0 r1 : Nat} {S : Nat → Int → Prop} {lim : Int} (hB : WB d) :
    ∀ (r fuel i : Nat) (σ : SG) (l4 : Int32), r < fuel → i + r = wn d + 1 → WXd d r0 r1 lim σ → uPX d σ → l4.toInt = i → GI d S lim i 0 σ → uOk (m_X8_goThrough_68 r0 r1 fuel σ l4) (fun _ σ' => fr1 41 66 σ σ' ∧ GE d S lim σ') := by
  have b1 := hB.1
  have b2 := hB.2.1
  intro r
  induction r with
  | zero =>
    intro fuel i σ l4 hf hr hW hP h4 hG
    cases fuel with
    | zero => omega
    | succ fuel =>
      show uOk (m_X8_goThrough_68_s r0 r1 _ σ l4) _
      unfold m_X8_goThrough_68_s
      exact ok_ite (fun _ => ok_r ⟨fr1.rf, GI.fin hB (by rw [show wn d + 1 = i by omega]; exact hG)⟩) (fun q => absurd (z_lt.mpr (by rw [hW.2.1.1, h4]; omega)) q)
  | succ r ih =>
    intro fuel i σ l4 hf hr hW hP h4 hG
    cases fuel with
    | zero => omega
    | succ fuel =>
      show uOk (m_X8_goThrough_68_s r0 r1 _ σ l4) _
      unfold m_X8_goThrough_68_s
      refine ok_ite (fun q => absurd (z_lt.mp q) (by rw [hW.2.1.1, h4]; omega)) (fun _ => ?_)
      refine x_go80 hB (by omega) h4 (wm d + 1) FV 0 σ 0 (FV_big (by omega)) (by omega) hW hP rfl hG (fun σ' hF hg v hv => ?_)
      exact (ih fuel (i + 1) σ' v (by omega) (by omega) (hW.fr hF (by omega) (by omega)) (hP.fr hF) hv hg).mono (fun _ s h => ⟨hF.tr h.1, h.2⟩)
theorem x_pair {d : WD} {r0 r1 : Nat} {lim : Int} {σ : SG} (hB : WB d) (hW : WXd d r0 r1 lim σ) {i j : Nat} (hi : i < wn d) (hj : j < wm d) {p0 p1 p2 : Int32} (h0 : p0.toInt = wpa d i) (h1 : p1.toInt = wpb d j) (h2 : p2.toInt = uws d) : uOk (m_X8_pairCost σ p0 p1 p2) (fun v σ' => σ' = σ ∧ v.toInt = 32 * wpr d i j) := by
  obtain ⟨b1, b2, b3, b4, b5, b6, b7⟩ := hB
  obtain ⟨-, -, -, -, ⟨g9, g10, -⟩, -⟩ := hW
  have c1 := b3 i hi
  have c2 := b4 j hj
  have q0 := b5 0 (by omega)
  have q4 := b5 4 (by omega)
  have km : ((-1 : Int32)).toInt = -1 := rfl
  have a0 : p0 = -1 ↔ wpa d i < 0 := by rw [z_eq, h0, km]; omega
  have a1 : p1 = -1 ↔ wpb d j < 0 := by rw [z_eq, h1, km]; omega
  have yes : ¬ (wpa d i < 0 ∧ wpb d j < 0) → uOk (m_X8_pairCost_12 σ p0 p1 p2) (fun v σ' => σ' = σ ∧ v.toInt = 32 * wpr d i j) := fun h => by
    unfold m_X8_pairCost_12
    refine ok_ite (fun q => ok_r ⟨rfl, ?_⟩) (fun q => ok_ite (fun q2 => ok_l fun v5 e5 => ok_r ⟨rfl, ?_⟩) (fun q2 => ok_r ⟨rfl, ?_⟩))
    · unfold wpr; rw [if_neg h, if_pos (Or.inl (a0.mp q)), g10]; omega
    · have h3 : ¬ wpa d i < 0 := fun z => q (a0.mpr z)
      have h4 : ¬ wpb d j < 0 := fun z => q2 (a1.mpr z)
      have e1 : (p0 + p2 - p1).toInt = wpa d i + uws d - wpb d j := z_subv (z_addv h0 h2 (by omega) (by omega)) h1 (by omega) (by omega)
      have e3 := z_absv e1 (by omega)
      rw [← e5] at e3
      have b := zabs_b (x := wpa d i + uws d - wpb d j) (b := 151) (by omega) (by omega)
      have b' := mul_b q0.1 q0.2 b.1 b.2
      have em : (wK d 0 * 32) * zabs (wpa d i + uws d - wpb d j) = 32 * (wK d 0 * zabs (wpa d i + uws d - wpb d j)) := by rw [Int.mul_comm (wK d 0) 32, Int.mul_assoc]
      unfold wpr
      rw [if_neg h, if_neg (by omega), z_mulv g9 e3 (by omega) (by omega), em]
    · have h4 : wpb d j < 0 := a1.mp (Classical.not_not.mp q2)
      unfold wpr; rw [if_neg h, if_pos (Or.inr h4), g10]; omega
  unfold m_X8_pairCost m_X8_pairCost_0
  refine ok_ite (fun q => yes (fun z => q (a0.mpr z.1))) (fun q => ok_ite (fun q2 => yes (fun z => q2 (a1.mpr z.2))) (fun q2 => ok_r ⟨rfl, ?_⟩))
  unfold wpr
  rw [if_pos ⟨a0.mp (Classical.not_not.mp q), a1.mp (Classical.not_not.mp q2)⟩]
  rfl
theorem x_go15 {d : WD} {r0 r1 : Nat} {lim : Int} (hB : WB d) {c3 : SG → Int32 → Int32 → Option (Unit × SG)} {P : Unit → SG → Prop} {i : Nat} {l3 l4 : Int32} (hi : i < wn d) (h3 : l3.toInt = uws d) (h4 : l4.toInt = i) :
    ∀ (r fuel j : Nat) (σ : SG) (l5 : Int32), r < fuel → j + r = wm d → WXd d r0 r1 lim σ → l5.toInt = j → (∀ x y, x < wn d → y < wm d → (x < i ∨ (x = i ∧ y < j)) → (σ.1 (66 + x) y).toInt = 32 * wpr d x y) → (∀ σ', fr1 66 90 σ σ' → (∀ x y, x < wn d → y < wm d → x < i + 1 → (σ'.1 (66 + x) y).toInt = 32 * wpr d x y) → ∀ v : Int32, v.toInt = ((i + 1 : Nat) : Int) → uOk (c3 σ' l3 v) P) → uOk (m_X8_goThrough_15 r0 r1 c3 fuel σ l3 l4 l5) P := by
  have b1 := hB.1
  have b2 := hB.2.1
  intro r
  induction r with
  | zero =>
    intro fuel j σ l5 hf hr hW h5 hG kk
    cases fuel with
    | zero => omega
    | succ fuel =>
      show uOk (m_X8_goThrough_15_s r0 r1 c3 _ σ l3 l4 l5) P
      unfold m_X8_goThrough_15_s
      exact ok_ite (fun _ => ok_l fun v ev => kk σ fr1.rf (fun x y hx hy h => hG x y hx hy (by omega)) v (by rw [ev, z_add1 (by omega), h4]; rfl)) (fun q => absurd (z_le.mpr (by rw [hW.2.1.2, h5]; omega)) q)
  | succ r ih =>
    intro fuel j σ l5 hf hr hW h5 hG kk
    cases fuel with
    | zero => omega
    | succ fuel =>
      show uOk (m_X8_goThrough_15_s r0 r1 c3 _ σ l3 l4 l5) P
      unfold m_X8_goThrough_15_s
      obtain ⟨⟨g1, g2, g3, g4⟩, ⟨g5, g6⟩, g7, g8, -⟩ := id hW
      rw [z_nv h4, z_nv h5, (lenX_row g1).1, (lenX_row g2).1]
      refine ok_ite (fun q => absurd (z_le.mp q) (by rw [g6, h5]; omega)) (fun _ => ok_i (by omega) (ok_i (by omega) (ok_i (by omega) (ok_b (x_pair hB hW hi (by omega : j < wm d) (g7 i hi).1 (g8 j (by omega)).1 h3) (fun v10 s h10 => ?_)))))
      obtain ⟨rfl, h10⟩ := h10
      refine ok_i (by omega) (ok_l fun s1 e1 => ok_l fun v ev => ?_)
      have hF : fr1 66 90 s s1 := by rw [e1]; exact fr1.rf.sI (by omega)
      refine ih fuel (j + 1) s1 v (by omega) (by omega) (hW.fr hF (by omega) (by omega)) (by rw [ev, z_add1 (by omega), h5]; rfl) (fun x y hx hy h => ?_) (fun σ' f g => kk σ' (hF.tr f) g)
      rw [e1, g_sI]
      by_cases e : 66 + x = 66 + i ∧ y = j
      · rw [if_pos e, h10, show x = i by omega, e.2]
      · rw [if_neg e]; exact hG x y hx hy (by omega)
theorem x_go3 {d : WD} {r0 r1 : Nat} {S : Nat → Int → Prop} {lim : Int} (hB : WB d) {l3 : Int32} (h3 : l3.toInt = uws d) :
    ∀ (r fuel i : Nat) (σ : SG) (l4 : Int32), r < fuel → i + r = wn d → WXd d r0 r1 lim σ → l4.toInt = i → (∀ x y, x < wn d → y < wm d → x < i → (σ.1 (66 + x) y).toInt = 32 * wpr d x y) → GI d S lim 0 0 σ → uOk (m_X8_goThrough_3 r0 r1 fuel σ l3 l4) (fun _ σ' => fr1 41 90 σ σ' ∧ GE d S lim σ') := by
  have b1 := hB.1
  have b2 := hB.2.1
  intro r
  induction r with
  | zero =>
    intro fuel i σ l4 hf hr hW h4 hP hG
    cases fuel with
    | zero => omega
    | succ fuel =>
      show uOk (m_X8_goThrough_3_s r0 r1 _ σ l3 l4) _
      unfold m_X8_goThrough_3_s
      refine ok_ite (fun _ => ?_) (fun q => absurd (z_le.mpr (by rw [hW.2.1.1, h4]; omega)) q)
      exact (x_go68 hB (wn d + 1) FV 0 σ 0 (FV_big (by omega)) (by omega) hW (fun x y hx hy => hP x y hx hy (by omega)) rfl hG).mono (fun _ s h => ⟨⟨fun k i z => h.1.1 k i (by omega), h.1.2⟩, h.2⟩)
  | succ r ih =>
    intro fuel i σ l4 hf hr hW h4 hP hG
    cases fuel with
    | zero => omega
    | succ fuel =>
      show uOk (m_X8_goThrough_3_s r0 r1 _ σ l3 l4) _
      unfold m_X8_goThrough_3_s
      refine ok_ite (fun q => absurd (z_le.mp q) (by rw [hW.2.1.1, h4]; omega)) (fun _ => ?_)
      refine x_go15 hB (by omega) h3 h4 (wm d) FV 0 σ 0 (FV_big (by omega)) (by omega) hW rfl (fun x y hx hy h => hP x y hx hy (by omega)) (fun σ' hF hg v hv => ?_)
      have hX : ∀ x y, x ≤ wn d → Xv σ' x y = Xv σ x y := fun x y hx => by unfold Xv; rw [hF.1 _ _ (by omega)]
      refine (ih fuel (i + 1) σ' v (by omega) (by omega) (hW.fr hF (by omega) (by omega)) hv hg ⟨fun x y hx hy => ?_, fun p e hp => ?_, fun x y hx hy h => by omega⟩).mono (fun _ s h => ⟨⟨fun k i z => (h.1.1 k i z).trans (hF.1 k i (by omega)), h.1.2.trans hF.2⟩, h.2⟩)
      · rw [hX x y hx]; exact hG.1 x y hx hy
      · rw [hX 0 p (by omega)]; exact hG.2.1 p e hp
theorem x_go {d : WD} {r0 r1 : Nat} {S : Nat → Int → Prop} {lim : Int} {σ : SG} (hB : WB d) {p2 : Int32} (h3 : p2.toInt = uws d) (hW : WXd d r0 r1 lim σ) (hG : GI d S lim 0 0 σ) : uOk (m_X8_goThrough r0 r1 σ p2) (fun _ σ' => fr1 41 90 σ σ' ∧ GE d S lim σ') :=
  x_go3 hB h3 (wn d) FV 0 σ 0 (FV_big (by have := hB.1; omega)) (by omega) hW rfl (fun x y _ _ h => by omega) hG
theorem x_clear13 {d : WD} {r0 r1 : Nat} {lim : Int} (hB : WB d) {c2 : SG → Int32 → Option (Unit × SG)} {P : Unit → SG → Prop} {i : Nat} {l3 : Int32} (hi : i ≤ wn d) (h3 : l3.toInt = i) :
    ∀ (r fuel j : Nat) (σ : SG) (l4 : Int32), r < fuel → j + r = wm d + 1 → WXd d r0 r1 lim σ → l4.toInt = j → (∀ x y, x ≤ wn d → y ≤ wm d → (x < i ∨ (x = i ∧ y < j)) → Xv σ x y = 2147483647) → (∀ σ', fr1 41 66 σ σ' → (∀ x y, x ≤ wn d → y ≤ wm d → x < i + 1 → Xv σ' x y = 2147483647) → ∀ v : Int32, v.toInt = ((i + 1 : Nat) : Int) → uOk (c2 σ' v) P) → uOk (m_X8_clearCells_13 r0 r1 c2 fuel σ l3 l4) P := by
  have b1 := hB.1
  have b2 := hB.2.1
  intro r
  induction r with
  | zero =>
    intro fuel j σ l4 hf hr hW h4 hG kk
    cases fuel with
    | zero => omega
    | succ fuel =>
      show uOk (m_X8_clearCells_13_s r0 r1 c2 _ σ l3 l4) P
      unfold m_X8_clearCells_13_s
      exact ok_ite (fun _ => ok_l fun v ev => kk σ fr1.rf (fun x y hx hy h => hG x y hx hy (by omega)) v (by rw [ev, z_add1 (by omega), h3]; rfl)) (fun q => absurd (z_lt.mpr (by rw [hW.2.1.2, h4]; omega)) q)
  | succ r ih =>
    intro fuel j σ l4 hf hr hW h4 hG kk
    cases fuel with
    | zero => omega
    | succ fuel =>
      show uOk (m_X8_clearCells_13_s r0 r1 c2 _ σ l3 l4) P
      unfold m_X8_clearCells_13_s
      rw [z_nv h3, z_nv h4]
      refine ok_ite (fun q => absurd (z_lt.mp q) (by rw [hW.2.1.2, h4]; omega)) (fun _ => ok_i (by omega) (ok_i (by omega) (ok_l fun s1 e1 => ok_l fun v ev => ?_)))
      have hF : fr1 41 66 σ s1 := by rw [e1]; exact fr1.rf.sI (by omega)
      refine ih fuel (j + 1) s1 v (by omega) (by omega) (hW.fr hF (by omega) (by omega)) (by rw [ev, z_add1 (by omega), h4]; rfl) (fun x y hx hy h => ?_) (fun σ' f g => kk σ' (hF.tr f) g)
      unfold Xv
      rw [e1, g_sI]
      by_cases e : 41 + x = 41 + i ∧ y = j
      · rw [if_pos e]; rfl
      · rw [if_neg e]; exact hG x y hx hy (by omega)
theorem x_clear2 {d : WD} {r0 r1 : Nat} {lim : Int} (hB : WB d) :
    ∀ (r fuel i : Nat) (σ : SG) (l3 : Int32), r < fuel → i + r = wn d + 1 → WXd d r0 r1 lim σ → l3.toInt = i → (∀ x y, x ≤ wn d → y ≤ wm d → x < i → Xv σ x y = 2147483647) → uOk (m_X8_clearCells_2 r0 r1 fuel σ l3) (fun _ σ' => fr1 41 66 σ σ' ∧ ∀ x y, x ≤ wn d → y ≤ wm d → Xv σ' x y = 2147483647) := by
  have b1 := hB.1
  have b2 := hB.2.1
  intro r
  induction r with
  | zero =>
    intro fuel i σ l3 hf hr hW h3 hG
    cases fuel with
    | zero => omega
    | succ fuel =>
      show uOk (m_X8_clearCells_2_s r0 r1 _ σ l3) _
      unfold m_X8_clearCells_2_s
      exact ok_ite (fun _ => ok_r ⟨fr1.rf, fun x y hx hy => hG x y hx hy (by omega)⟩) (fun q => absurd (z_lt.mpr (by rw [hW.2.1.1, h3]; omega)) q)
  | succ r ih =>
    intro fuel i σ l3 hf hr hW h3 hG
    cases fuel with
    | zero => omega
    | succ fuel =>
      show uOk (m_X8_clearCells_2_s r0 r1 _ σ l3) _
      unfold m_X8_clearCells_2_s
      refine ok_ite (fun q => absurd (z_lt.mp q) (by rw [hW.2.1.1, h3]; omega)) (fun _ => ?_)
      refine x_clear13 hB (by omega) h3 (wm d + 1) FV 0 σ 0 (FV_big (by omega)) (by omega) hW rfl (fun x y hx hy h => hG x y hx hy (by omega)) (fun σ' hF hg v hv => ?_)
      exact (ih fuel (i + 1) σ' v (by omega) (by omega) (hW.fr hF (by omega) (by omega)) hv hg).mono (fun _ s h => ⟨hF.tr h.1, h.2⟩)
theorem x_clear {d : WD} {r0 r1 : Nat} {lim : Int} {σ : SG} (hB : WB d) (hW : WXd d r0 r1 lim σ) : uOk (m_X8_clearCells r0 r1 σ) (fun _ σ' => fr1 41 66 σ σ' ∧ ∀ x y, x ≤ wn d → y ≤ wm d → Xv σ' x y = 2147483647) :=
  x_clear2 hB (wn d + 1) FV 0 σ 0 (FV_big (by have := hB.1; omega)) (by omega) hW rfl (fun x y _ _ h => by omega)
