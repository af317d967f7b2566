/-! ===== groups, repeats and brackets of the class ===== -/
theorem fitX_eq {w : Nat} {σ σ' : SG} (h : ∀ i, σ'.1 (21 + w) i = σ.1 (21 + w) i) (h2 : ∀ i, σ'.1 (23 + w) i = σ.1 (23 + w) i) : fitX w σ' = fitX w σ := by
  funext x v
  unfold fitX
  rw [h, h2]
theorem CS.cg {w d A : Nat} {Γ : Nat → LVL} {σ σ' : SG} (h : CS w d Γ A σ) (h1 : ∀ k i, (21 ≤ k ∧ k < 25) ∨ (176 ≤ k ∧ k < 205) → σ'.1 k i = σ.1 k i) (h2 : σ'.2.1 = σ.2.1) : CS w d Γ A σ' := by
  obtain ⟨a1, a2, a3, a4, a5, a6, a7⟩ := h
  refine ⟨a1, a2, by rw [h1 _ _ (by omega)]; exact a3, a4, fun k hk => ?_, a6, a7⟩
  have e1 : fitX w σ' = fitX w σ := fitX_eq (fun i => h1 _ _ (by omega)) (fun i => h1 _ _ (by omega))
  have e2 : FlX w σ' A = FlX w σ A := by
    funext x y
    unfold FlX
    rw [h2]
  have e3 : ∀ o, o < 27 → pE σ' o = pE σ o ∧ pF σ' o = pF σ o ∧ pL σ' o = pL σ o := fun o ho => by
    unfold pE pF pL
    rw [h1 _ _ (by omega), h2]
    exact ⟨rfl, rfl, rfl⟩
  have q := a5 k hk
  unfold LVok at q ⊢
  have r0 := e3 (3 * k) (by omega)
  have r1 := e3 (3 * k + 1) (by omega)
  have r2 := e3 (3 * k + 2) (by omega)
  rw [e1, e2, r0.1, r0.2.1, r0.2.2, r1.1, r1.2.1, r1.2.2, r2.1, r2.2.1, r2.2.2]
  exact q
theorem flg.cg {d : Nat} {σ σ' : SG} (h : flg d σ) (h1 : ∀ o, o < 3 * d + 3 → σ'.1 (176 + o) 0 = σ.1 (176 + o) 0) : flg d σ' := fun o ho => by rw [h1 o ho]; exact h o ho
theorem x_openGroup {w d A : Nat} {Γ : Nat → LVL} {σ : SG} {p0 p1 p2 q : Nat} {Gc Gs Gi : LG} (h : CS w d Γ A σ) (hΓ : Γ d = ((p0, p1, p2, q), (Gc, Gs, Gi))) (hg : flg d σ) (hd : (σ.1 166 2).toInt = d) : uOk (m_X10_openGroup w σ) (fun v σ' => (d = 8 → v = 4 ∧ σ' = σ) ∧ (d < 8 → v = 0 ∧ frW w σ σ' ∧ CS w (d + 1) (ups (ups Γ d ((p0, p1, A, A), (Gc, gCat Gs Gi, gEps))) (d + 1) ((A, A, A, A), (gNo, gEps, gEps))) A σ' ∧ (σ'.1 166 2).toInt = (d + 1 : Nat) ∧ (∀ i, i ≠ 2 → σ'.1 166 i = σ.1 166 i) ∧ σ'.1 (167 + (d + 1)) 3 = 0 ∧ flg (d + 1) σ')) := by
  have hd8 := h.2.2.2.1
  have k8 : ((8 : Int32)).toInt = 8 := rfl
  have hw := h.1
  unfold m_X10_openGroup m_X10_openGroup_0
  rw [z_nv hd]
  refine ok_ite (fun q' => ok_i (by omega) (ok_b (x_closeItem h hΓ hg) (fun _ s5 g5 => ok_l fun s7 e7 => ?_))) (fun q' => ok_r ⟨fun _ => ⟨rfl, rfl⟩, fun z => absurd (z_lt.mpr (by rw [hd, k8]; omega)) q'⟩)
  obtain ⟨f5, c5, r5, g5, w21, w23, wf⟩ := g5
  rw [z_lt, hd, k8] at q'
  have d5 : (s5.1 166 2).toInt = d := by rw [f5.1 _ _ (by omega) (by omega) (by omega) (by omega) (by omega)]; exact hd
  have d7 : (s7.1 166 2).toInt = (d + 1 : Nat) := by rw [e7, g_sI_s, z_add1 (by omega), d5]; rfl
  have i7 : ∀ k i, ¬ (k = 166 ∧ i = 2) → s7.1 k i = s5.1 k i := fun k i z => by rw [e7, g_sI, if_neg z]
  have j7 : s7.2 = s5.2 := by rw [e7]; rfl
  have c7 : CS w d (ups Γ d ((p0, p1, A, A), (Gc, gCat Gs Gi, gEps))) A s7 := c5.cg (fun k i z => i7 k i (by omega)) (by rw [j7])
  have g7 : flg d s7 := g5.cg (fun o ho => i7 _ _ (by omega))
  rw [z_nv d7]
  refine ok_i (by omega) (ok_b (x_beginL c7 g7 (by omega)) (fun _ s12 g12 => ok_r ⟨fun z => by omega, fun _ => ⟨rfl, ?_⟩⟩))
  obtain ⟨f12, c12, r12, g12⟩ := g12
  have F5 : frW w σ s5 := f5.W (by omega)
  have F12 : frW w s7 s12 := f12.W (by omega)
  refine ⟨⟨fun k i z1 z2 z3 z4 => ?_, fun k i z1 z2 z3 => ?_, ?_⟩, c12, ?_, fun i hi => ?_, r12, g12⟩
  · rw [F12.1 k i z1 z2 z3 z4, i7 k i (by omega), F5.1 k i z1 z2 z3 z4]
  · rw [F12.2.1 k i z1 z2 z3, j7, F5.2.1 k i z1 z2 z3]
  · rw [F12.2.2, j7, F5.2.2]
  · rw [f12.1 _ _ (by omega) (by omega) (by omega) (by omega) (by omega)]; exact d7
  · rw [f12.1 _ _ (by omega) (by omega) (by omega) (by omega) (by omega), i7 _ _ (by omega), f5.1 _ _ (by omega) (by omega) (by omega) (by omega) (by omega)]
theorem x_closeGroup {w d A : Nat} {Γ : Nat → LVL} {σ : SG} {p0 p1 p2 q : Nat} {Gc Gs Gi : LG} {q0 q1 q2 q3 : Nat} {Hc Hs Hi : LG} (h : CS w (d + 1) Γ A σ) (hΓ : Γ (d + 1) = ((p0, p1, p2, q), (Gc, Gs, Gi))) (hΔ : Γ d = ((q0, q1, q2, q3), (Hc, Hs, Hi))) (hp : q2 = q3) (hg : flg (d + 1) σ) (hd : (σ.1 166 2).toInt = (d + 1 : Nat)) : uOk (m_X10_closeGroup w σ) (fun v σ' => v = 0 ∧ frW w σ σ' ∧ CS w d (ups Γ d ((q0, q1, q2, A), (Hc, Hs, gOr Gc (gCat Gs Gi)))) A σ' ∧ (σ'.1 166 2).toInt = d ∧ (∀ i, i ≠ 2 → σ'.1 166 i = σ.1 166 i) ∧ ¬ σ'.1 (167 + d) 3 = 0 ∧ flg d σ') := by
  have hd8 := h.2.2.2.1
  have hw := h.1
  have k0 : ((0 : Int32)).toInt = 0 := rfl
  unfold m_X10_closeGroup m_X10_closeGroup_0
  rw [z_nv hd]
  refine ok_ite (fun q' => ok_i (by omega) (ok_b (x_closeSeq h hΓ hg) (fun _ s5 g5 => ok_l fun s7 e7 => ?_))) (fun q' => absurd (fun z => by rw [z, k0] at hd; omega) q')
  obtain ⟨f5, c5, r5, g5⟩ := g5
  have d5 : (s5.1 166 2).toInt = (d + 1 : Nat) := by rw [f5.1 _ _ (by omega) (by omega) (by omega) (by omega) (by omega)]; exact hd
  have d7 : (s7.1 166 2).toInt = d := by rw [e7, g_sI_s, z_sub1 (by omega), d5]; omega
  have i7 : ∀ k i, ¬ (k = 166 ∧ i = 2) → s7.1 k i = s5.1 k i := fun k i z => by rw [e7, g_sI, if_neg z]
  have j7 : s7.2 = s5.2 := by rw [e7]; rfl
  rw [z_nv d7]
  have fl : s7.1 (176 + 3 * (d + 1)) 0 = 0 ∨ s7.1 (176 + 3 * (d + 1)) 0 = 1 := by rw [i7 _ _ (by omega)]; exact g5 _ (by omega)
  refine ok_i (by omega) (ok_b (x_become fl) (fun _ s12 g12 => ok_l fun s14 e14 => ok_r ?_))
  obtain ⟨b1, b2, b3, b4⟩ := g12
  obtain ⟨h1, h2, h3, h4, h5, h6, h7⟩ := id c5
  have j14 : s14.2 = s12.2 := by rw [e14]; rfl
  have i14 : ∀ k i, ¬ (k = 167 + d ∧ i = 3) → s14.1 k i = s12.1 k i := fun k i z => by rw [e14, g_sI, if_neg z]
  have I : ∀ k i, ¬ (k = 166 ∧ i = 2) → ¬ (k = 167 + d ∧ i = 3) → k ≠ 176 + (3 * d + 2) → s14.1 k i = s5.1 k i := fun k i z1 z2 z3 => by rw [i14 k i z2, b1.1 k i z3, i7 k i z1]
  have J : ∀ k i, k ≠ 176 + (3 * d + 2) → s14.2.1 k i = s5.2.1 k i := fun k i z => by rw [j14, b1.2.1 k i z, j7]
  have F5 : frW w σ s5 := f5.W (by omega)
  have efit : fitX w s14 = fitX w s5 := fitX_eq (fun i => I _ _ (by omega) (by omega) (by omega)) (fun i => I _ _ (by omega) (by omega) (by omega))
  have efl : FlX w s14 A = FlX w s5 A := by
    funext x y
    unfold FlX
    rw [J _ _ (by omega)]
  have rd : ∀ o, o < 27 → o ≠ 3 * d + 2 → pE s14 o = pE s5 o ∧ pF s14 o = pF s5 o ∧ pL s14 o = pL s5 o := fun o z1 z2 => by
    unfold pE pF pL
    rw [I _ _ (by omega) (by omega) (by omega), J _ _ (by omega), J _ _ (by omega)]
    exact ⟨rfl, rfl, rfl⟩
  have hin := h5 (d + 1) (Nat.le_refl _)
  rw [ups_s] at hin
  have hin : Prt (fitX w s5) (FlX w s5 A) p0 A (pE s5 (3 * (d + 1))) (pF s5 (3 * (d + 1))) (pL s5 (3 * (d + 1))) (gOr Gc (gCat Gs Gi)) := hin.1
  have hout := h5 d (by omega)
  rw [ups_n (by omega), hΔ] at hout
  have hq3 : q3 = p0 := by
    have := h.2.2.2.2.2.1 d (by omega)
    rw [hΔ, hΓ] at this
    exact this
  refine ⟨rfl, ⟨fun k i z1 z2 z3 z4 => ?_, fun k i z1 z2 z3 => ?_, ?_⟩, ⟨h1, h2, by rw [I _ _ (by omega) (by omega) (by omega)]; exact h3, by omega, fun k hk => ?_, fun k hk => ?_, by rw [ups_s]⟩, ?_, fun i hi => ?_, by rw [e14, g_sI_s]; decide, fun o ho => ?_⟩
  · rw [I k i (by omega) (by omega) (by omega), F5.1 k i z1 z2 z3 z4]
  · rw [J k i (by omega), F5.2.1 k i z1 z2 z3]
  · rw [j14, b1.2.2, j7, F5.2.2]
  · by_cases e : k = d
    · rw [e, ups_s]
      have r0 := rd (3 * d) (by omega) (by omega)
      have r1 := rd (3 * d + 1) (by omega) (by omega)
      unfold LVok
      rw [efit, efl, r0.1, r0.2.1, r0.2.2, r1.1, r1.2.1, r1.2.2]
      refine ⟨hout.1, hout.2.1, ?_⟩
      show Prt _ _ q2 A _ _ _ (gOr Gc (gCat Gs Gi))
      rw [hp, hq3]
      have E0 : pE s14 (3 * d + 2) = pE s5 (3 * (d + 1)) := by
        unfold pE
        rw [i14 _ _ (by omega), b2, i7 _ _ (by omega)]
      have E1 : pF s14 (3 * d + 2) = pF s5 (3 * (d + 1)) := by
        unfold pF
        rw [j14, b3, j7]
      have E2 : pL s14 (3 * d + 2) = pL s5 (3 * (d + 1)) := by
        unfold pL
        rw [j14, b4, j7]
      rw [E0, E1, E2]
      exact hin
    · have q := h5 k (by omega)
      rw [ups_n (by omega)] at q
      rw [ups_n e]
      unfold LVok at q ⊢
      have r0 := rd (3 * k) (by omega) (by omega)
      have r1 := rd (3 * k + 1) (by omega) (by omega)
      have r2 := rd (3 * k + 2) (by omega) (by omega)
      rw [efit, efl, r0.1, r0.2.1, r0.2.2, r1.1, r1.2.1, r1.2.2, r2.1, r2.2.1, r2.2.2]
      exact q
  · have q := h6 k (by omega)
    rw [ups_n (by omega), ups_n (by omega)] at q
    rw [ups_n (by omega)]
    by_cases e : k + 1 = d
    · rw [e, ups_s]
      rw [e, hΔ] at q
      exact q
    · rw [ups_n e]; exact q
  · rw [i14 _ _ (by omega), b1.1 _ _ (by omega)]; exact d7
  · rw [I _ _ (by omega) (by omega) (by omega), f5.1 _ _ (by omega) (by omega) (by omega) (by omega) (by omega)]
  · rw [i14 _ _ (by omega)]
    by_cases e : o = 3 * d + 2
    · rw [e, b2]; exact fl
    · rw [b1.1 _ _ (by omega), i7 _ _ (by omega)]; exact g5 o (by omega)
