/-! ===== what the class does with tokens ===== -/
theorem x_closeSeq {w d A : Nat} {Γ : Nat → LVL} {σ : SG} {p0 p1 p2 q : Nat} {Gc Gs Gi : LG} (h : CS w d Γ A σ) (hΓ : Γ d = ((p0, p1, p2, q), (Gc, Gs, Gi))) (hg : flg d σ) : uOk (m_X2_closeSeq d w σ) (fun _ σ' => frD w d σ σ' ∧ CS w d (ups Γ d ((p0, A, A, A), (gOr Gc (gCat Gs Gi), gEps, gEps))) A σ' ∧ σ'.1 (167 + d) 3 = 0 ∧ flg d σ') := by
  unfold m_X2_closeSeq m_X2_closeSeq_0
  refine ok_b (x_closeItem h hΓ hg) (fun _ s2 g2 => ?_)
  obtain ⟨f2, c2, r2, g2, -, -, -⟩ := g2
  obtain ⟨h1, h2, h3, h4, h5, h6, h7⟩ := id c2
  have hL := h5 d (Nat.le_refl _)
  rw [ups_s] at hL
  obtain ⟨l1, l2, l3⟩ := hL
  have l1 : Prt (fitX w s2) (FlX w s2 A) p0 p1 (pE s2 (3 * d)) (pF s2 (3 * d)) (pL s2 (3 * d)) Gc := l1
  have l2 : Prt (fitX w s2) (FlX w s2 A) p1 A (pE s2 (3 * d + 1)) (pF s2 (3 * d + 1)) (pL s2 (3 * d + 1)) (gCat Gs Gi) := l2
  have l3 : Prt (fitX w s2) (FlX w s2 A) A A (pE s2 (3 * d + 2)) (pF s2 (3 * d + 2)) (pL s2 (3 * d + 2)) gEps := l3
  refine ok_b x_choice (fun _ s5 g5 => ?_)
  obtain ⟨b1, b2, b3, b4, b5⟩ := g5
  refine ok_b (x_become (e := 1) (Or.inr rfl)) (fun _ s8 g8 => ok_r ?_)
  obtain ⟨c1, c2', c3, c4⟩ := g8
  have F : frD w d s2 s8 := (b1.D (by omega)).tr (c1.D (by omega))
  have hfit := fitX_same (w := w) (σ := s2) (σ' := s8) (fun i => by rw [c1.1 _ _ (by omega), b1.1 _ _ (by omega)]) (fun i => by rw [c1.1 _ _ (by omega), b1.1 _ _ (by omega)])
  have fol : ∀ x, s8.2.1 (144 + w) x = s2.2.1 (144 + w) x := fun x => by rw [c1.2.1 _ _ (by omega), b1.2.1 _ _ (by omega)]
  have hl : ∀ x y, FlX w s8 A x y ↔ FlX w s2 A x y := fun x y => by unfold FlX; rw [fol x]
  refine ⟨f2.tr F, ?_, by rw [c1.1 _ _ (by omega), b1.1 _ _ (by omega)]; exact r2, fun o ho => ?_⟩
  · have hp := c2.put (v' := ((p0, A, A, A), (gOr Gc (gCat Gs Gi), gEps, gEps))) (Nat.le_refl _) h2 (by rw [c1.1 _ _ (by omega), b1.1 _ _ (by omega)]; exact h3) F (fun x v _ => hfit x v) (fun x y _ => by rw [fol x]) ⟨?_, ?_, ?_⟩ (by rw [ups_s]) rfl
    · have e : ups (ups Γ d ((p0, p1, A, A), (Gc, gCat Gs Gi, gEps))) d ((p0, A, A, A), (gOr Gc (gCat Gs Gi), gEps, gEps)) = ups Γ d ((p0, A, A, A), (gOr Gc (gCat Gs Gi), gEps, gEps)) := funext fun k => by unfold ups; split <;> rfl
      rw [e] at hp
      exact hp
    · show Prt _ _ p0 A _ _ _ (gOr Gc (gCat Gs Gi))
      refine ((Prt.or l1 l2).far (fun x y _ _ => hl x y) (fun x v _ _ => hfit x v)).eq ?_ (fun x => ?_) (fun x => ?_) (fun _ _ _ _ => Iff.rfl)
      · unfold pE
        rw [c1.1 _ _ (by omega), b3]
      · unfold pF
        rw [c1.2.1 _ _ (by omega), b4 x]
      · unfold pL
        rw [c1.2.1 _ _ (by omega), b5 x]
    · show Prt _ _ A A _ _ _ gEps
      refine Prt.eps.eq ?_ (fun x => ?_) (fun x => ?_) (fun _ _ _ _ => Iff.rfl)
      · unfold pE
        rw [c2']
        exact ⟨fun _ => by decide, fun _ => trivial⟩
      · unfold pF
        rw [c3]
        exact ⟨fun z => z.elim, fun z => absurd z b64_0⟩
      · unfold pL
        rw [c4]
        exact ⟨fun z => z.elim, fun z => absurd z b64_0⟩
    · show Prt _ _ A A _ _ _ gEps
      refine (l3.far (fun x y _ _ => hl x y) (fun x v _ _ => hfit x v)).eq ?_ (fun x => ?_) (fun x => ?_) (fun _ _ _ _ => Iff.rfl)
      · unfold pE
        rw [c1.1 _ _ (by omega), b1.1 _ _ (by omega)]
      · unfold pF
        rw [c1.2.1 _ _ (by omega), b1.2.1 _ _ (by omega)]
      · unfold pL
        rw [c1.2.1 _ _ (by omega), b1.2.1 _ _ (by omega)]
  · by_cases z1 : o = 3 * d + 1
    · rw [z1, c2']; exact Or.inr rfl
    · rw [c1.1 _ _ (by omega)]
      by_cases z0 : o = 3 * d
      · rw [z0]; exact b2
      · rw [b1.1 _ _ (by omega)]; exact g2 o ho
theorem x_isFull {w d A : Nat} {Γ : Nat → LVL} {σ : SG} (h : CS w d Γ A σ) : uOk (m_X9_isFull w σ) (fun v s => s = σ ∧ (v = 0 ↔ A < 50)) := by
  have k50 : ((50 : Int32)).toInt = 50 := rfl
  have hA := h.2.1
  unfold m_X9_isFull m_X9_isFull_0
  refine ok_ite (fun q => ok_r ⟨rfl, ?_⟩) (fun q => ok_r ⟨rfl, ?_⟩)
  · rw [z_lt, h.2.2.1, k50] at q; simp; omega
  · rw [z_lt, h.2.2.1, k50] at q; simp; omega
theorem x_takeAtom {w d A : Nat} {Γ : Nat → LVL} {σ : SG} {p0 p1 p2 q : Nat} {Gc Gs Gi : LG} {lo hi : Int32} (h : CS w d Γ A σ) (hΓ : Γ d = ((p0, p1, p2, q), (Gc, Gs, Gi))) (hg : flg d σ) (hd : (σ.1 166 2).toInt = d) : uOk (m_X10_takeAtom w σ lo hi) (fun v σ' => (A = 50 → v = 4 ∧ σ' = σ) ∧ (A < 50 → v = 0 ∧ frD w d σ σ' ∧ CS w d (ups Γ d ((p0, p1, A, A + 1), (Gc, gCat Gs Gi, gAtom lo.toInt hi.toInt))) (A + 1) σ' ∧ ¬ σ'.1 (167 + d) 3 = 0 ∧ flg d σ')) := by
  have hA := h.2.1
  have hd8 := h.2.2.2.1
  unfold m_X10_takeAtom m_X10_takeAtom_0
  refine ok_b (x_isFull h) (fun v1 s2 g1 => ?_)
  obtain ⟨rfl, g1⟩ := g1
  rw [z_nv hd]
  refine ok_ite (fun q' => ok_i (by omega) (ok_b (x_closeItem h hΓ hg) (fun _ s8 g8 => ?_))) (fun q' => ok_r ⟨fun _ => ⟨rfl, rfl⟩, fun z => absurd (g1.mpr z) q'⟩)
  have hlt : A < 50 := g1.mp q'
  obtain ⟨f8, c8, r8, g8, w21, w23, wf⟩ := g8
  obtain ⟨h1, h2, h3, h4, h5, h6, h7⟩ := id c8
  have hL := h5 d (Nat.le_refl _)
  rw [ups_s] at hL
  obtain ⟨l1, l2, l3⟩ := hL
  have l1 : Prt (fitX w s8) (FlX w s8 A) p0 p1 (pE s8 (3 * d)) (pF s8 (3 * d)) (pL s8 (3 * d)) Gc := l1
  have l2 : Prt (fitX w s8) (FlX w s8 A) p1 A (pE s8 (3 * d + 1)) (pF s8 (3 * d + 1)) (pL s8 (3 * d + 1)) (gCat Gs Gi) := l2
  have b1le := l1.1
  have b2le := l2.1
  refine ok_b (Q := fun v s => (∀ x, b64 v x ↔ x = A) ∧ (s.1 (203 + w) 0).toInt = (A + 1 : Nat) ∧ s.1 (21 + w) A = lo ∧ s.1 (23 + w) A = hi ∧ s.2.1 (144 + w) A = 0 ∧ (∀ k i, ¬ (k = 21 + w ∧ i = A) → ¬ (k = 23 + w ∧ i = A) → ¬ (k = 203 + w ∧ i = 0) → s.1 k i = s8.1 k i) ∧ (∀ k i, ¬ (k = 144 + w ∧ i = A) → s.2.1 k i = s8.2.1 k i) ∧ s.2.2 = s8.2.2) ?_ (fun v10 s11 g11 => ?_)
  · unfold m_X9_addAtom m_X9_addAtom_0
    rw [z_nv h3]
    refine ok_i (by omega) (ok_l fun t2 e2 => ?_)
    have c2 : t2.1 (203 + w) 0 = s8.1 (203 + w) 0 := by rw [e2, g_sI, if_neg (by omega)]
    rw [c2, z_nv h3]
    refine ok_i (by omega) (ok_l fun t5 e5 => ?_)
    have c5 : t5.1 (203 + w) 0 = s8.1 (203 + w) 0 := by rw [e5, g_sI, if_neg (by omega), c2]
    rw [c5, z_nv h3]
    refine ok_i (by omega) (ok_l fun t8 e8 => ok_l fun t10 e10 => ok_r ?_)
    have c8' : t8.1 (203 + w) 0 = s8.1 (203 + w) 0 := by rw [e8, g_sJ1, c5]
    have v10 : t10.1 (203 + w) 0 = s8.1 (203 + w) 0 + 1 := by rw [e10, g_sI_s, c8']
    have v10t : (t10.1 (203 + w) 0).toInt = (A + 1 : Nat) := by rw [v10, z_add1 (by omega), h3]; rfl
    refine ⟨fun x => ?_, v10t, ?_, ?_, ?_, fun k i z1 z2 z3 => ?_, fun k i z => ?_, ?_⟩
    · exact b64_one (n := A) (by rw [z_sub1 (by omega), v10t]; omega) (by omega)
    · rw [e10, g_sI, if_neg (by omega), e8, g_sJ1, e5, g_sI, if_neg (by omega), e2, g_sI_s]
    · rw [e10, g_sI, if_neg (by omega), e8, g_sJ1, e5, g_sI_s]
    · rw [e10, g_sI2, e8, g_sJ, if_pos ⟨rfl, rfl⟩]
    · rw [e10, g_sI, if_neg z3, e8, g_sJ1, e5, g_sI, if_neg z2, e2, g_sI, if_neg z1]
    · rw [e10, g_sI2, e8, g_sJ, if_neg z, e5, g_sI2, e2, g_sI2]
    · rw [e10, g_sI2, e8, g_sJ3, e5, g_sI2, e2, g_sI2]
  obtain ⟨a1, a2, a3, a4, a5, a6, a7, a8⟩ := g11
  refine ok_b (x_become (e := 0) (Or.inl rfl)) (fun _ s14 g14 => ok_l fun s16 e16 => ok_r ⟨fun z => by omega, fun _ => ⟨rfl, ?_⟩⟩)
  obtain ⟨c1, c2, c3, c4⟩ := g14
  have j16 : s16.2 = s14.2 := by rw [e16]; rfl
  have i16 : ∀ k i, ¬ (k = 167 + d ∧ i = 3) → s16.1 k i = s14.1 k i := fun k i z => by rw [e16, g_sI, if_neg z]
  have F : frD w d s8 s16 := by
    refine ⟨fun k i z1 z2 z3 z4 z5 => ?_, fun k i z1 z2 => ?_, ?_⟩
    · rw [i16 k i z1, c1.1 k i (by omega), a6 k i (by omega) (by omega) z5]
    · rw [j16, c1.2.1 k i (by omega), a7 k i (by omega)]
    · rw [j16, c1.2.2, a8]
  have hfit : ∀ x v, x < A → (fitX w s16 x v ↔ fitX w s8 x v) := fun x v hx => by
    unfold fitX
    rw [i16 _ _ (by omega), c1.1 _ _ (by omega), a6 _ _ (by omega) (by omega) (by omega), i16 _ _ (by omega), c1.1 _ _ (by omega), a6 _ _ (by omega) (by omega) (by omega)]
  have fol : ∀ x, x < A → s16.2.1 (144 + w) x = s8.2.1 (144 + w) x := fun x hx => by rw [j16, c1.2.1 _ _ (by omega), a7 _ _ (by omega)]
  have hl : ∀ x y, x < A → (FlX w s16 (A + 1) x y ↔ FlX w s8 A x y) := fun x y hx => by unfold FlX; rw [fol x hx]; exact ⟨fun z => ⟨hx, z.2⟩, fun z => ⟨by omega, z.2⟩⟩
  have rd : ∀ o, o < 27 → o ≠ 3 * d + 2 → pE s16 o = pE s8 o ∧ pF s16 o = pF s8 o ∧ pL s16 o = pL s8 o := fun o z1 z2 => by
    unfold pE pF pL
    rw [i16 _ _ (by omega), j16, c1.1 _ _ (by omega), c1.2.1 _ _ (by omega), c1.2.1 _ _ (by omega), a6 _ _ (by omega) (by omega) (by omega), a7 _ _ (by omega), a7 _ _ (by omega)]
    exact ⟨rfl, rfl, rfl⟩
  refine ⟨f8.tr F, ?_, by rw [e16, g_sI_s]; decide, fun o ho => ?_⟩
  · have hp := c8.put (v' := ((p0, p1, A, A + 1), (Gc, gCat Gs Gi, gAtom lo.toInt hi.toInt))) (Nat.le_succ _) (by omega) (by rw [i16 _ _ (by omega), c1.1 _ _ (by omega)]; exact a2) F (fun x v hx => hfit x v (by rw [ups_s] at hx; have hx : x < p0 := hx; omega)) (fun x y hx => by rw [fol x (by rw [ups_s] at hx; have hx : x < p0 := hx; omega)]) ⟨?_, ?_, ?_⟩ (by rw [ups_s]) rfl
    · have e : ups (ups Γ d ((p0, p1, A, A), (Gc, gCat Gs Gi, gEps))) d ((p0, p1, A, A + 1), (Gc, gCat Gs Gi, gAtom lo.toInt hi.toInt)) = ups Γ d ((p0, p1, A, A + 1), (Gc, gCat Gs Gi, gAtom lo.toInt hi.toInt)) := funext fun k => by unfold ups; split <;> rfl
      rw [e] at hp
      exact hp
    · show Prt _ _ p0 p1 _ _ _ Gc
      have r := rd (3 * d) (by omega) (by omega)
      rw [r.1, r.2.1, r.2.2]
      exact l1.far (fun x y _ hx => hl x y (by omega)) (fun x v _ hx => hfit x v (by omega))
    · show Prt _ _ p1 A _ _ _ (gCat Gs Gi)
      have r := rd (3 * d + 1) (by omega) (by omega)
      rw [r.1, r.2.1, r.2.2]
      exact l2.far (fun x y _ hx => hl x y (by omega)) (fun x v _ hx => hfit x v (by omega))
    · show Prt _ _ A (A + 1) _ _ _ (gAtom lo.toInt hi.toInt)
      refine (Prt.atom (p := A) (fit := fitX w s16) (Fl := FlX w s16 (A + 1)) (fun v => ?_) (fun y z => ?_)).eq ?_ (fun x => ?_) (fun x => ?_) (fun _ _ _ _ => Iff.rfl)
      · unfold fitX
        rw [i16 _ _ (by omega), c1.1 _ _ (by omega), a3, i16 _ _ (by omega), c1.1 _ _ (by omega), a4]
      · have z2 := z.2
        rw [j16, c1.2.1 _ _ (by omega), a5] at z2
        exact b64_0 z2
      · unfold pE
        rw [i16 _ _ (by omega), c2]
        exact ⟨fun z => z.elim, fun z => absurd rfl z⟩
      · unfold pF
        rw [j16, c3]
        exact (a1 x).symm
      · unfold pL
        rw [j16, c4]
        exact (a1 x).symm
  · rw [i16 _ _ (by omega)]
    by_cases z2 : o = 3 * d + 2
    · rw [z2, c2]; exact Or.inl rfl
    · rw [c1.1 _ _ (by omega), a6 _ _ (by omega) (by omega) (by omega)]; exact g8 o ho
theorem x_beginL {w d A : Nat} {Γ : Nat → LVL} {σ : SG} (h : CS w d Γ A σ) (hg : flg d σ) (hd : d < 8) : uOk (m_X2_begin (d + 1) σ) (fun _ σ' => frD w (d + 1) σ σ' ∧ CS w (d + 1) (ups Γ (d + 1) ((A, A, A, A), (gNo, gEps, gEps))) A σ' ∧ σ'.1 (167 + (d + 1)) 3 = 0 ∧ flg (d + 1) σ') := by
  obtain ⟨h1, h2, h3, h4, h5, h6, h7⟩ := id h
  unfold m_X2_begin m_X2_begin_0
  refine ok_b (x_become (e := 0) (Or.inl rfl)) (fun _ s2 g2 => ok_b (x_become (e := 1) (Or.inr rfl)) (fun _ s5 g5 => ok_b (x_become (e := 1) (Or.inr rfl)) (fun _ s8 g8 => ok_l fun s10 e10 => ok_r ?_)))
  obtain ⟨a1, a2, a3, a4⟩ := g2
  obtain ⟨b1, b2, b3, b4⟩ := g5
  obtain ⟨c1, c2, c3, c4⟩ := g8
  have j10 : s10.2 = s8.2 := by rw [e10]; rfl
  have i10 : ∀ k i, ¬ (k = 167 + (d + 1) ∧ i = 3) → s10.1 k i = s8.1 k i := fun k i z => by rw [e10, g_sI, if_neg z]
  have F : frD w (d + 1) σ s10 := by
    refine ⟨fun k i z1 z2 z3 z4 z5 => ?_, fun k i z1 z2 => ?_, ?_⟩
    · rw [i10 k i z1, c1.1 k i (by omega), b1.1 k i (by omega), a1.1 k i (by omega)]
    · rw [j10, c1.2.1 k i (by omega), b1.2.1 k i (by omega), a1.2.1 k i (by omega)]
    · rw [j10, c1.2.2, b1.2.2, a1.2.2]
  have hfit := fitX_same (w := w) (σ := σ) (σ' := s10) (fun i => by rw [i10 _ _ (by omega), c1.1 _ _ (by omega), b1.1 _ _ (by omega), a1.1 _ _ (by omega)]) (fun i => by rw [i10 _ _ (by omega), c1.1 _ _ (by omega), b1.1 _ _ (by omega), a1.1 _ _ (by omega)])
  have fol : ∀ x, s10.2.1 (144 + w) x = σ.2.1 (144 + w) x := fun x => by rw [j10, c1.2.1 _ _ (by omega), b1.2.1 _ _ (by omega), a1.2.1 _ _ (by omega)]
  have hb := p0le h
  refine ⟨F, ⟨h1, h2, by rw [i10 _ _ (by omega), c1.1 _ _ (by omega), b1.1 _ _ (by omega), a1.1 _ _ (by omega)]; exact h3, by omega, fun k hk => ?_, fun k hk => ?_, by rw [ups_s]⟩, by rw [e10, g_sI_s], fun o ho => ?_⟩
  · by_cases e : k = d + 1
    · rw [e, ups_s]
      refine ⟨?_, ?_, ?_⟩
      · show Prt _ _ A A _ _ _ gNo
        refine Prt.no.eq ?_ (fun x => ?_) (fun x => ?_) (fun _ _ _ _ => Iff.rfl)
        · unfold pE
          rw [i10 _ _ (by omega), c1.1 _ _ (by omega), b1.1 _ _ (by omega), a2]
          exact ⟨fun z => z.elim, fun z => absurd rfl z⟩
        · unfold pF
          rw [j10, c1.2.1 _ _ (by omega), b1.2.1 _ _ (by omega), a3]
          exact ⟨fun z => z.elim, fun z => absurd z b64_0⟩
        · unfold pL
          rw [j10, c1.2.1 _ _ (by omega), b1.2.1 _ _ (by omega), a4]
          exact ⟨fun z => z.elim, fun z => absurd z b64_0⟩
      · show Prt _ _ A A _ _ _ gEps
        refine Prt.eps.eq ?_ (fun x => ?_) (fun x => ?_) (fun _ _ _ _ => Iff.rfl)
        · unfold pE
          rw [i10 _ _ (by omega), c1.1 _ _ (by omega), b2]
          exact ⟨fun _ => by decide, fun _ => trivial⟩
        · unfold pF
          rw [j10, c1.2.1 _ _ (by omega), b3]
          exact ⟨fun z => z.elim, fun z => absurd z b64_0⟩
        · unfold pL
          rw [j10, c1.2.1 _ _ (by omega), b4]
          exact ⟨fun z => z.elim, fun z => absurd z b64_0⟩
      · show Prt _ _ A A _ _ _ gEps
        refine Prt.eps.eq ?_ (fun x => ?_) (fun x => ?_) (fun _ _ _ _ => Iff.rfl)
        · unfold pE
          rw [i10 _ _ (by omega), c2]
          exact ⟨fun _ => by decide, fun _ => trivial⟩
        · unfold pF
          rw [j10, c3]
          exact ⟨fun z => z.elim, fun z => absurd z b64_0⟩
        · unfold pL
          rw [j10, c4]
          exact ⟨fun z => z.elim, fun z => absurd z b64_0⟩
    · rw [ups_n e]
      exact (h5 k (by omega)).far h1 (Nat.le_refl _) (by omega) (by omega) (hb k (by omega)).2 F (fun x v _ => hfit x v) (fun x y _ => by rw [fol x])
  · rw [ups_n (by omega)]
    by_cases e : k + 1 = d + 1
    · rw [e, ups_s, show k = d by omega]; exact h7
    · rw [ups_n e]; exact h6 k (by omega)
  · rw [i10 _ _ (by omega)]
    by_cases z2 : o = 3 * (d + 1) + 2
    · rw [z2, c2]; exact Or.inr rfl
    · rw [c1.1 _ _ (by omega)]
      by_cases z1 : o = 3 * (d + 1) + 1
      · rw [z1, b2]; exact Or.inr rfl
      · rw [b1.1 _ _ (by omega)]
        by_cases z0 : o = 3 * (d + 1)
        · rw [z0, a2]; exact Or.inl rfl
        · rw [a1.1 _ _ (by omega)]; exact hg o (by omega)
