/-! ===== repeats ===== -/
def gRpt (cd : Int) (G : LG) : LG := if cd = 63 then gMay G else if cd = 43 then gPlus G else gStar G
theorem x_repeat {w d A : Nat} {Γ : Nat → LVL} {σ : SG} {p0 p1 p2 q : Nat} {Gc Gs Gi : LG} {cd : Int} (h : CS w d Γ A σ) (hΓ : Γ d = ((p0, p1, p2, q), (Gc, Gs, Gi))) (hg : flg d σ) (hd : (σ.1 166 2).toInt = d) (hc : (σ.1 166 4).toInt = cd) (hc' : cd = 42 ∨ cd = 43 ∨ cd = 63) : uOk (m_X10_repeat w σ) (fun v σ' => (σ.1 (167 + d) 3 = 0 → v = 2 ∧ σ' = σ) ∧ (¬ σ.1 (167 + d) 3 = 0 → v = 0 ∧ frD w d σ σ' ∧ CS w d (ups Γ d ((p0, p1, p2, A), (Gc, Gs, gRpt cd Gi))) A σ' ∧ σ'.1 (167 + d) 3 = 0 ∧ flg d σ')) := by
  have k63 : ((63 : Int32)).toInt = 63 := rfl
  have k43 : ((43 : Int32)).toInt = 43 := rfl
  obtain ⟨h1, h2, h3, h4, h5, h6, h7⟩ := id h
  have hL := h5 d (Nat.le_refl _)
  rw [hΓ] at hL h7
  obtain ⟨l1, l2, l3⟩ := hL
  have l1 : Prt (fitX w σ) (FlX w σ A) p0 p1 (pE σ (3 * d)) (pF σ (3 * d)) (pL σ (3 * d)) Gc := l1
  have l2 : Prt (fitX w σ) (FlX w σ A) p1 p2 (pE σ (3 * d + 1)) (pF σ (3 * d + 1)) (pL σ (3 * d + 1)) Gs := l2
  have l3 : Prt (fitX w σ) (FlX w σ A) p2 q (pE σ (3 * d + 2)) (pF σ (3 * d + 2)) (pL σ (3 * d + 2)) Gi := l3
  have h7 : q = A := h7
  subst h7
  have b1le := l1.1
  have b2le := l2.1
  have b3le := l3.1
  have m46 : ∀ s : SG, s.1 = σ.1 → s.2.2 = σ.2.2 → (∀ k i, k ≠ 144 + w → s.2.1 k i = σ.2.1 k i) → (∀ x, q ≤ x → s.2.1 (144 + w) x = σ.2.1 (144 + w) x) → (cd = 63 → ∀ x, s.2.1 (144 + w) x = σ.2.1 (144 + w) x) → (cd ≠ 63 → ∀ x y, x < q → (b64 (s.2.1 (144 + w) x) y ↔ b64 (σ.2.1 (144 + w) x) y ∨ (pL σ (3 * d + 2) x ∧ pF σ (3 * d + 2) y))) → uOk (m_X10_repeat_46 w s d) (fun v σ' => v = 0 ∧ frD w d σ σ' ∧ CS w d (ups Γ d ((p0, p1, p2, q), (Gc, Gs, gRpt cd Gi))) q σ' ∧ σ'.1 (167 + d) 3 = 0 ∧ flg d σ') := by
    intro s a1 a2 a3 a4 a5 a6
    have fin : ∀ (t s11 : SG), s11 = sI t (167 + d) 3 0 → (t = s ∧ cd = 43 ∨ t = sI s (176 + (3 * d + 2)) 0 1 ∧ cd ≠ 43) → (frD w d σ s11 ∧ CS w d (ups Γ d ((p0, p1, p2, q), (Gc, Gs, gRpt cd Gi))) q s11 ∧ s11.1 (167 + d) 3 = 0 ∧ flg d s11) := by
      intro t s11 e11 ht
      have t2 : t.2 = s.2 := by rcases ht with ⟨rfl, -⟩ | ⟨rfl, -⟩ <;> rfl
      have t1 : ∀ k i, ¬ (k = 176 + (3 * d + 2) ∧ i = 0) → t.1 k i = σ.1 k i := fun k i z => by
        rcases ht with ⟨rfl, -⟩ | ⟨rfl, -⟩
        · rw [a1]
        · rw [g_sI, if_neg z, a1]
      have i11 : ∀ k i, ¬ (k = 167 + d ∧ i = 3) → s11.1 k i = t.1 k i := fun k i z => by rw [e11, g_sI, if_neg z]
      have j11 : s11.2 = s.2 := by rw [e11, g_sI2, t2]
      have I : ∀ k i, ¬ (k = 167 + d ∧ i = 3) → ¬ (k = 176 + (3 * d + 2) ∧ i = 0) → s11.1 k i = σ.1 k i := fun k i z1 z2 => by rw [i11 k i z1, t1 k i z2]
      have F : frD w d σ s11 := by
        refine ⟨fun k i z1 z2 z3 z4 z5 => I k i z1 (by omega), fun k i z1 z2 => ?_, ?_⟩
        · rw [j11, a3 k i z1]
        · rw [j11, a2]
      have efit : fitX w s11 = fitX w σ := fitX_eq (fun i => I _ _ (by omega) (by omega)) (fun i => I _ _ (by omega) (by omega))
      have rd : ∀ o, o < 27 → o ≠ 3 * d + 2 → pE s11 o = pE σ o ∧ pF s11 o = pF σ o ∧ pL s11 o = pL σ o := fun o z1 z2 => by
        unfold pE pF pL
        rw [I _ _ (by omega) (by omega), j11, a3 _ _ (by omega), a3 _ _ (by omega)]
        exact ⟨rfl, rfl, rfl⟩
      have rF : pF s11 (3 * d + 2) = pF σ (3 * d + 2) := by
        unfold pF
        rw [j11, a3 _ _ (by omega)]
      have rL : pL s11 (3 * d + 2) = pL σ (3 * d + 2) := by
        unfold pL
        rw [j11, a3 _ _ (by omega)]
      have E43 : cd = 43 → pE s11 (3 * d + 2) = pE σ (3 * d + 2) := fun z => by
        unfold pE
        rcases ht with ⟨rfl, -⟩ | ⟨-, z2⟩
        · rw [i11 _ _ (by omega), a1]
        · exact absurd z z2
      have En : cd ≠ 43 → (True ↔ pE s11 (3 * d + 2)) := fun z => by
        unfold pE
        rcases ht with ⟨-, z2⟩ | ⟨rfl, -⟩
        · exact absurd z2 z
        · rw [i11 _ _ (by omega), g_sI_s]
          exact ⟨fun _ => by decide, fun _ => trivial⟩
      have low : ∀ x y, x < p2 → (b64 (s11.2.1 (144 + w) x) y ↔ b64 (σ.2.1 (144 + w) x) y) := fun x y hx => by
        rw [j11]
        by_cases z : cd = 63
        · rw [a5 z x]
        · rw [a6 z x y (by omega)]
          exact ⟨fun y => y.elim (fun y => y) (fun y => by have := (l3.2.2.2.1 x y.1).1; omega), fun y => Or.inl y⟩
      have lowF : ∀ x y, x < p2 → (FlX w s11 q x y ↔ FlX w σ q x y) := fun x y hx => by unfold FlX; rw [low x y hx]
      refine ⟨F, h.put (Nat.le_refl _) h2 (by rw [I _ _ (by omega) (by omega)]; exact h3) F (fun x v _ => by rw [efit]) (fun x y hx => low x y (by rw [hΓ] at hx; have hx : x < p0 := hx; omega)) ⟨?_, ?_, ?_⟩ (by rw [hΓ]) rfl, by rw [e11, g_sI_s], fun o ho => ?_⟩
      · show Prt _ _ p0 p1 _ _ _ Gc
        have r := rd (3 * d) (by omega) (by omega)
        rw [r.1, r.2.1, r.2.2]
        exact l1.far (fun x y _ hx => lowF x y (by omega)) (fun x v _ _ => by rw [efit])
      · show Prt _ _ p1 p2 _ _ _ Gs
        have r := rd (3 * d + 1) (by omega) (by omega)
        rw [r.1, r.2.1, r.2.2]
        exact l2.far (fun x y _ hx => lowF x y (by omega)) (fun x v _ _ => by rw [efit])
      · show Prt _ _ p2 q _ _ _ (gRpt cd Gi)
        rw [efit, rF, rL]
        unfold gRpt
        have hlk : cd ≠ 63 → ∀ x y, p2 ≤ x → x < q → (FlX w s11 q x y ↔ FlX w σ q x y ∨ (pL σ (3 * d + 2) x ∧ pF σ (3 * d + 2) y)) := fun z x y _ hx => by
          unfold FlX
          rw [j11, a6 z x y hx]
          constructor
          · rintro ⟨y1, y2 | y2⟩
            · exact Or.inl ⟨y1, y2⟩
            · exact Or.inr y2
          · rintro (⟨y1, y2⟩ | y2)
            · exact ⟨y1, Or.inl y2⟩
            · exact ⟨hx, Or.inr y2⟩
        rcases hc' with z | z | z
        · rw [if_neg (by omega), if_neg (by omega)]
          exact (Prt.may (Prt.plus l3 (hlk (by omega)))).eq (En (by omega)) (fun _ => Iff.rfl) (fun _ => Iff.rfl) (fun _ _ _ _ => star_eq)
        · rw [if_neg (by omega), if_pos z, E43 z]
          exact Prt.plus l3 (hlk (by omega))
        · rw [if_pos z]
          exact ((Prt.may l3).far (fun x y _ _ => by unfold FlX; rw [j11, a5 z x]) (fun _ _ _ _ => Iff.rfl)).eq (En (by omega)) (fun _ => Iff.rfl) (fun _ => Iff.rfl) (fun _ _ _ _ => Iff.rfl)
      · by_cases e : o = 3 * d + 2
        · rw [e]
          rcases ht with ⟨rfl, -⟩ | ⟨rfl, -⟩
          · rw [i11 _ _ (by omega), a1]; exact hg _ (by omega)
          · rw [i11 _ _ (by omega), g_sI_s]; exact Or.inr rfl
        · rw [I _ _ (by omega) (by omega)]; exact hg o ho
    unfold m_X10_repeat_46 m_X10_repeat_63
    rw [a1]
    refine ok_ite (fun z => ok_l fun s11 e11 => ok_r ⟨rfl, fin s s11 e11 (Or.inl ⟨rfl, ?_⟩)⟩) (fun z => ok_l fun s9 e9 => ok_l fun s11 e11 => ok_r ⟨rfl, fin s9 s11 e11 (Or.inr ⟨e9, fun y => z ?_⟩)⟩)
    · rw [z_eq, hc, k43] at z; exact z
    · rw [z_eq, hc, k43]; exact y
  unfold m_X10_repeat m_X10_repeat_0
  rw [z_nv hd]
  refine ok_i (by omega) (ok_ite (fun z => ok_ite (fun z2 => ?_) (fun z2 => ok_b (Q := fun _ s => s.1 = σ.1 ∧ s.2.2 = σ.2.2 ∧ (∀ k i, k ≠ 144 + w → s.2.1 k i = σ.2.1 k i) ∧ (∀ x, q ≤ x → s.2.1 (144 + w) x = σ.2.1 (144 + w) x) ∧ ∀ x y, x < q → (b64 (s.2.1 (144 + w) x) y ↔ b64 (σ.2.1 (144 + w) x) y ∨ (pL σ (3 * d + 2) x ∧ pF σ (3 * d + 2) y))) ?_ (fun _ s6 g6 => ?_))) (fun z => ok_r ⟨fun _ => ⟨rfl, rfl⟩, fun y => absurd y z⟩))
  · rw [z_eq, hc, k63] at z2
    exact (m46 σ rfl rfl (fun _ _ _ => rfl) (fun _ _ => rfl) (fun _ _ => rfl) (fun y => absurd z2 y)).mono (fun v s g => ⟨fun y => absurd y z, fun _ => g⟩)
  · unfold m_X9_link m_X9_link_0
    exact x_link h2 q FV 0 σ σ 0 (FV_big (by omega)) (by omega) h3 rfl rfl rfl (fun _ _ _ => rfl) (fun _ _ => rfl) (fun _ _ => rfl) (fun x y hx => by omega)
  · rw [z_eq, hc, k63] at z2
    obtain ⟨g1, g2, g3, g4, g5⟩ := g6
    exact (m46 s6 g1 g2 g3 g4 (fun y => absurd y z2) (fun _ => g5)).mono (fun v s g => ⟨fun y => absurd y z, fun _ => g⟩)
