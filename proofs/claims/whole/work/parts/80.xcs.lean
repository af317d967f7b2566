/-! ===== the class's stack of levels ===== -/
def pE (σ : SG) (o : Nat) : Prop := ¬ σ.1 (176 + o) 0 = 0
def pF (σ : SG) (o : Nat) : Nat → Prop := b64 (σ.2.1 (176 + o) 1)
def pL (σ : SG) (o : Nat) : Nat → Prop := b64 (σ.2.1 (176 + o) 2)
abbrev LVL : Type := (Nat × Nat × Nat × Nat) × (LG × LG × LG)
/-- the three parts of a level: choices, seq, item -/
def LVok (w A : Nat) (σ : SG) (k : Nat) (v : LVL) : Prop :=
  Prt (fitX w σ) (FlX w σ A) v.1.1 v.1.2.1 (pE σ (3 * k)) (pF σ (3 * k)) (pL σ (3 * k)) v.2.1 ∧ Prt (fitX w σ) (FlX w σ A) v.1.2.1 v.1.2.2.1 (pE σ (3 * k + 1)) (pF σ (3 * k + 1)) (pL σ (3 * k + 1)) v.2.2.1 ∧ Prt (fitX w σ) (FlX w σ A) v.1.2.2.1 v.1.2.2.2 (pE σ (3 * k + 2)) (pF σ (3 * k + 2)) (pL σ (3 * k + 2)) v.2.2.2
def CS (w d : Nat) (Γ : Nat → LVL) (A : Nat) (σ : SG) : Prop := w < 2 ∧ A ≤ 50 ∧ (σ.1 (203 + w) 0).toInt = A ∧ d ≤ 8 ∧ (∀ k, k ≤ d → LVok w A σ k (Γ k)) ∧ (∀ k, k < d → (Γ k).1.2.2.2 = (Γ (k + 1)).1.1) ∧ (Γ d).1.2.2.2 = A
/-- what reading a word may change -/
def frW (w : Nat) (σ σ' : SG) : Prop := (∀ k i, ¬ (166 ≤ k ∧ k < 203) → k ≠ 21 + w → k ≠ 23 + w → ¬ (k = 203 + w ∧ i = 0) → σ'.1 k i = σ.1 k i) ∧ (∀ k i, k ≠ 144 + w → ¬ (176 ≤ k ∧ k < 203) → k ≠ 203 + w → σ'.2.1 k i = σ.2.1 k i) ∧ σ'.2.2 = σ.2.2
theorem frW.rf {w : Nat} {σ : SG} : frW w σ σ := ⟨fun _ _ _ _ _ _ => rfl, fun _ _ _ _ _ => rfl, rfl⟩
theorem frW.tr {w : Nat} {σ σ1 σ2 : SG} (h : frW w σ σ1) (q : frW w σ1 σ2) : frW w σ σ2 := ⟨fun k i a b c d => (q.1 k i a b c d).trans (h.1 k i a b c d), fun k i a b c => (q.2.1 k i a b c).trans (h.2.1 k i a b c), q.2.2.trans h.2.2⟩
/-- within one level d and the word: the reader's own fields stay -/
def frD (w d : Nat) (σ σ' : SG) : Prop := (∀ k i, ¬ (k = 167 + d ∧ i = 3) → ¬ (176 + 3 * d ≤ k ∧ k < 176 + 3 * d + 3) → k ≠ 21 + w → k ≠ 23 + w → ¬ (k = 203 + w ∧ i = 0) → σ'.1 k i = σ.1 k i) ∧ (∀ k i, k ≠ 144 + w → ¬ (176 + 3 * d ≤ k ∧ k < 176 + 3 * d + 3) → σ'.2.1 k i = σ.2.1 k i) ∧ σ'.2.2 = σ.2.2
theorem frD.rf {w d : Nat} {σ : SG} : frD w d σ σ := ⟨fun _ _ _ _ _ _ _ => rfl, fun _ _ _ _ => rfl, rfl⟩
theorem frD.tr {w d : Nat} {σ σ1 σ2 : SG} (h : frD w d σ σ1) (q : frD w d σ1 σ2) : frD w d σ σ2 := ⟨fun k i a b c d e => (q.1 k i a b c d e).trans (h.1 k i a b c d e), fun k i a b => (q.2.1 k i a b).trans (h.2.1 k i a b), q.2.2.trans h.2.2⟩
theorem frD.W {w d : Nat} (hd : d ≤ 8) {σ σ' : SG} (h : frD w d σ σ') : frW w σ σ' := ⟨fun k i a b c e => h.1 k i (by omega) (by omega) b c e, fun k i a b c => h.2.1 k i a (by omega), h.2.2⟩
theorem frPt.D {w d o : Nat} {σ σ' : SG} (h : frPt o σ σ') (ho : 3 * d ≤ o ∧ o < 3 * d + 3) : frD w d σ σ' := ⟨fun k i _ b _ _ _ => h.1 k i (by omega), fun k i _ b => h.2.1 k i (by omega), h.2.2⟩
/-- a level below is not touched -/
theorem LVok.far {w A A' : Nat} {σ σ' : SG} {k d : Nat} {v : LVL} (hw : w < 2) (hA : A ≤ A') (h : LVok w A σ k v) (hk : k < d) (hd : d ≤ 8) (hq : v.1.2.2.2 ≤ A) (f : frD w d σ σ') (hf : ∀ x v', x < v.1.2.2.2 → (fitX w σ' x v' ↔ fitX w σ x v')) (hl : ∀ x y, x < v.1.2.2.2 → (b64 (σ'.2.1 (144 + w) x) y ↔ b64 (σ.2.1 (144 + w) x) y)) : LVok w A' σ' k v := by
  obtain ⟨h1, h2, h3⟩ := h
  have b1 := h1.1
  have b2 := h2.1
  have b3 := h3.1
  have e : ∀ o, 3 * k ≤ o → o < 3 * k + 3 → pE σ' o = pE σ o ∧ pF σ' o = pF σ o ∧ pL σ' o = pL σ o := fun o h4 h5 => by
    unfold pE pF pL
    rw [f.1 (176 + o) 0 (by omega) (by omega) (by omega) (by omega) (by omega), f.2.1 (176 + o) 1 (by omega) (by omega), f.2.1 (176 + o) 2 (by omega) (by omega)]
    exact ⟨rfl, rfl, rfl⟩
  have e0 := e (3 * k) (by omega) (by omega)
  have e1 := e (3 * k + 1) (by omega) (by omega)
  have e2 := e (3 * k + 2) (by omega) (by omega)
  have L : ∀ x y, x < v.1.2.2.2 → (FlX w σ' A' x y ↔ FlX w σ A x y) := fun x y hx => by
    unfold FlX
    rw [hl x y hx]
    exact ⟨fun z => ⟨by omega, z.2⟩, fun z => ⟨by omega, z.2⟩⟩
  unfold LVok
  rw [e0.1, e0.2.1, e0.2.2, e1.1, e1.2.1, e1.2.2, e2.1, e2.2.1, e2.2.2]
  exact ⟨h1.far (fun x y _ hx => L x y (by omega)) (fun x v' _ hx => hf x v' (by omega)), h2.far (fun x y _ hx => L x y (by omega)) (fun x v' _ hx => hf x v' (by omega)), h3.far (fun x y _ hx => L x y (by omega)) (fun x v' _ hx => hf x v' (by omega))⟩
/-- the flags of a level's parts are 0 or 1 -/
def flg (d : Nat) (σ : SG) : Prop := ∀ o, o < 3 * d + 3 → σ.1 (176 + o) 0 = 0 ∨ σ.1 (176 + o) 0 = 1
theorem fitX_same {w : Nat} {σ σ' : SG} (h : ∀ i, σ'.1 (21 + w) i = σ.1 (21 + w) i) (h2 : ∀ i, σ'.1 (23 + w) i = σ.1 (23 + w) i) : ∀ x v, fitX w σ' x v ↔ fitX w σ x v := fun x v => by unfold fitX; rw [h, h2]
theorem p0le {w d A : Nat} {Γ : Nat → LVL} {σ : SG} (h : CS w d Γ A σ) : ∀ k, k ≤ d → (Γ k).1.1 ≤ (Γ k).1.2.2.2 ∧ (Γ k).1.2.2.2 ≤ A := by
  obtain ⟨-, -, -, -, h5, h6, h7⟩ := h
  have a : ∀ k, k ≤ d → (Γ k).1.1 ≤ (Γ k).1.2.2.2 := fun k hk => by
    obtain ⟨a, b, c⟩ := h5 k hk
    have := a.1
    have := b.1
    have := c.1
    omega
  have bnd : ∀ m k, k + m = d → (Γ k).1.2.2.2 ≤ A := by
    intro m
    induction m with
    | zero => intro k hk; rw [show k = d by omega, h7]; exact Nat.le_refl _
    | succ m ih =>
      intro k hk
      rw [h6 k (by omega)]
      exact Nat.le_trans (a (k + 1) (by omega)) (ih (k + 1) (by omega))
  exact fun k hk => ⟨a k hk, bnd (d - k) k (by omega)⟩
def ups (Γ : Nat → LVL) (d : Nat) (v : LVL) : Nat → LVL := fun k => if k = d then v else Γ k
theorem ups_s {Γ : Nat → LVL} {d : Nat} {v : LVL} : ups Γ d v d = v := if_pos rfl
theorem ups_n {Γ : Nat → LVL} {d k : Nat} {v : LVL} (h : k ≠ d) : ups Γ d v k = Γ k := if_neg h
/-- the top level becomes v' -/
theorem CS.put {w d A A' : Nat} {Γ : Nat → LVL} {σ σ' : SG} {v' : LVL} (h : CS w d Γ A σ) (hA : A ≤ A') (hA' : A' ≤ 50) (hc : (σ'.1 (203 + w) 0).toInt = A') (f : frD w d σ σ') (hf : ∀ x v, x < (Γ d).1.1 → (fitX w σ' x v ↔ fitX w σ x v)) (hl : ∀ x y, x < (Γ d).1.1 → (b64 (σ'.2.1 (144 + w) x) y ↔ b64 (σ.2.1 (144 + w) x) y)) (hv : LVok w A' σ' d v') (h0 : v'.1.1 = (Γ d).1.1) (hq : v'.1.2.2.2 = A') : CS w d (ups Γ d v') A' σ' := by
  obtain ⟨h1, h2, h3, h4, h5, h6, h7⟩ := id h
  have hb := p0le h
  refine ⟨h1, hA', hc, h4, fun k hk => ?_, fun k hk => ?_, by rw [ups_s]; exact hq⟩
  · by_cases e : k = d
    · rw [e, ups_s]; exact hv
    · rw [ups_n e]
      have hlt : (Γ k).1.2.2.2 ≤ (Γ d).1.1 := by
        have step : ∀ m j, j + m + 1 = d → (Γ j).1.2.2.2 ≤ (Γ d).1.1 := by
          intro m
          induction m with
          | zero => intro j hj; rw [h6 j (by omega), show j + 1 = d by omega]; exact Nat.le_refl _
          | succ m ih =>
            intro j hj
            rw [h6 j (by omega)]
            exact Nat.le_trans (hb (j + 1) (by omega)).1 (ih (j + 1) (by omega))
        exact step (d - k - 1) k (by omega)
      exact (h5 k hk).far h1 hA (by omega) h4 (hb k hk).2 f (fun x v hx => hf x v (by omega)) (fun x y hx => hl x y (by omega))
  · rw [ups_n (by omega)]
    by_cases e : k + 1 = d
    · rw [e, ups_s, h0, h6 k hk, e]
    · rw [ups_n e]; exact h6 k hk
theorem gCat_eps {A : LG} {sg : Nat → Int} {N i j : Nat} : gCat A gEps sg N i j ↔ A sg N i j := ⟨fun ⟨k, h1, h2⟩ => by rw [← show k = j from h2]; exact h1, fun h => ⟨j, h, rfl⟩⟩
theorem x_closeItem {w d A : Nat} {Γ : Nat → LVL} {σ : SG} {p0 p1 p2 q : Nat} {Gc Gs Gi : LG} (h : CS w d Γ A σ) (hΓ : Γ d = ((p0, p1, p2, q), (Gc, Gs, Gi))) (hg : flg d σ) : uOk (m_X2_closeItem d w σ) (fun _ σ' => frD w d σ σ' ∧ CS w d (ups Γ d ((p0, p1, A, A), (Gc, gCat Gs Gi, gEps))) A σ' ∧ σ'.1 (167 + d) 3 = 0 ∧ flg d σ' ∧ (∀ i, σ'.1 (21 + w) i = σ.1 (21 + w) i) ∧ (∀ i, σ'.1 (23 + w) i = σ.1 (23 + w) i) ∧ (∀ x, A ≤ x → σ'.2.1 (144 + w) x = σ.2.1 (144 + w) x)) := by
  obtain ⟨h1, h2, h3, h4, h5, h6, h7⟩ := id h
  have hL := h5 d (Nat.le_refl _)
  rw [hΓ] at hL h7
  obtain ⟨l1, l2, l3⟩ := hL
  have l1 : Prt (fitX w σ) (FlX w σ A) p0 p1 (pE σ (3 * d)) (pF σ (3 * d)) (pL σ (3 * d)) Gc := l1
  have l2 : Prt (fitX w σ) (FlX w σ A) p1 p2 (pE σ (3 * d + 1)) (pF σ (3 * d + 1)) (pL σ (3 * d + 1)) Gs := l2
  have l3 : Prt (fitX w σ) (FlX w σ A) p2 q (pE σ (3 * d + 2)) (pF σ (3 * d + 2)) (pL σ (3 * d + 2)) Gi := l3
  have h7 : q = A := h7
  subst h7
  unfold m_X2_closeItem m_X2_closeItem_0
  refine ok_b (Q := fun _ s => s.1 = σ.1 ∧ s.2.2 = σ.2.2 ∧ (∀ k i, k ≠ 144 + w → s.2.1 k i = σ.2.1 k i) ∧ (∀ x, q ≤ x → s.2.1 (144 + w) x = σ.2.1 (144 + w) x) ∧ ∀ x y, x < q → (b64 (s.2.1 (144 + w) x) y ↔ b64 (σ.2.1 (144 + w) x) y ∨ (pL σ (3 * d + 1) x ∧ pF σ (3 * d + 2) y))) ?_ (fun _ s2 g2 => ?_)
  · unfold m_X9_link m_X9_link_0
    exact x_link h2 q FV 0 σ σ 0 (FV_big (by omega)) (by omega) h3 rfl rfl rfl (fun _ _ _ => rfl) (fun _ _ => rfl) (fun _ _ => rfl) (fun x y hx => by omega)
  obtain ⟨a1, a2, a3, a4, a5⟩ := g2
  have hgs : ∀ o, o < 3 * d + 3 → s2.1 (176 + o) 0 = 0 ∨ s2.1 (176 + o) 0 = 1 := fun o ho => by rw [a1]; exact hg o ho
  refine ok_b x_behind (fun _ s5 g5 => ?_)
  obtain ⟨b1, b2, b3, b4, b5⟩ := g5
  refine ok_b (x_become (e := 1) (Or.inr rfl)) (fun _ s8 g8 => ok_l fun s10 e10 => ok_r ?_)
  obtain ⟨c1, c2, c3, c4⟩ := g8
  have j10 : s10.2 = s8.2 := by rw [e10]; rfl
  have i10 : ∀ k i, ¬ (k = 167 + d ∧ i = 3) → s10.1 k i = s8.1 k i := fun k i z => by rw [e10, g_sI, if_neg z]
  have F : frD w d σ s10 := by
    refine ⟨fun k i z1 z2 z3 z4 z5 => ?_, fun k i z1 z2 => ?_, ?_⟩
    · rw [i10 k i z1, c1.1 k i (by omega), b1.1 k i (by omega), a1]
    · rw [j10, c1.2.1 k i (by omega), b1.2.1 k i (by omega), a3 k i z1]
    · rw [j10, c1.2.2, b1.2.2, a2]
  have w21 : ∀ i, s10.1 (21 + w) i = σ.1 (21 + w) i := fun i => by rw [i10 _ _ (by omega), c1.1 _ _ (by omega), b1.1 _ _ (by omega), a1]
  have w23 : ∀ i, s10.1 (23 + w) i = σ.1 (23 + w) i := fun i => by rw [i10 _ _ (by omega), c1.1 _ _ (by omega), b1.1 _ _ (by omega), a1]
  have fol : ∀ x, s10.2.1 (144 + w) x = s2.2.1 (144 + w) x := fun x => by rw [j10, c1.2.1 _ _ (by omega), b1.2.1 _ _ (by omega)]
  have hfit := fitX_same w21 w23
  have hl : ∀ x y, FlX w s10 q x y ↔ FlX w σ q x y ∨ (pL σ (3 * d + 1) x ∧ pF σ (3 * d + 2) y) := fun x y => by
    unfold FlX
    rw [fol x]
    constructor
    · rintro ⟨z1, z2⟩
      rcases (a5 x y z1).mp z2 with z | z
      · exact Or.inl ⟨z1, z⟩
      · exact Or.inr z
    · rintro (⟨z1, z2⟩ | z)
      · exact ⟨z1, (a5 x y z1).mpr (Or.inl z2)⟩
      · have hx := l2.2.2.2.1 x z.1
        have hq := l3.1
        have hx2 : x < q := by omega
        exact ⟨hx2, (a5 x y hx2).mpr (Or.inr z)⟩
  have hlow : ∀ x y, x < p1 → (FlX w s10 q x y ↔ FlX w σ q x y) := fun x y hx => by
    rw [hl x y]
    constructor
    · rintro (z | z)
      · exact z
      · have := (l2.2.2.2.1 x z.1).1
        omega
    · exact fun z => Or.inl z
  have rd : ∀ o, o ≠ 3 * d + 1 → o ≠ 3 * d + 2 → pE s10 o = pE σ o ∧ pF s10 o = pF σ o ∧ pL s10 o = pL σ o := fun o z1 z2 => by
    unfold pE pF pL
    rw [i10 _ _ (by omega), j10, c1.1 _ _ (by omega), c1.2.1 _ _ (by omega), c1.2.1 _ _ (by omega), b1.1 _ _ (by omega), b1.2.1 _ _ (by omega), b1.2.1 _ _ (by omega), a1, a3 _ _ (by omega), a3 _ _ (by omega)]
    exact ⟨rfl, rfl, rfl⟩
  have b1le := l1.1
  have b2le := l2.1
  have b3le := l3.1
  refine ⟨F, ?_, by rw [e10, g_sI_s], ?_, w21, w23, fun x hx => by rw [fol x]; exact a4 x hx⟩
  · refine h.put (Nat.le_refl _) h2 (by rw [i10 _ _ (by omega), c1.1 _ _ (by omega), b1.1 _ _ (by omega), a1]; exact h3) F (fun x v _ => hfit x v) (fun x y hx => ?_) ⟨?_, ?_, ?_⟩ (by rw [hΓ]) rfl
    · rw [hΓ] at hx
      have hx : x < p0 := hx
      have := hlow x y (by omega)
      unfold FlX at this
      exact ⟨fun z => (this.mp ⟨by omega, z⟩).2, fun z => (this.mpr ⟨by omega, z⟩).2⟩
    · show Prt _ _ p0 p1 _ _ _ Gc
      have r := rd (3 * d) (by omega) (by omega)
      rw [r.1, r.2.1, r.2.2]
      exact l1.far (fun x y _ hx => hlow x y hx) (fun x v _ _ => hfit x v)
    · show Prt _ _ p1 q _ _ _ (gCat Gs Gi)
      have cat := Prt.cat (Fl' := FlX w s10 q) l2 l3 (fun x y _ _ => hl x y)
      refine (cat.far (fun _ _ _ _ => Iff.rfl) (fun x v _ _ => hfit x v)).eq ?_ (fun x => ?_) (fun x => ?_) (fun _ _ _ _ => Iff.rfl)
      · unfold pE
        rw [i10 _ _ (by omega), c1.1 _ _ (by omega), b3, a1]
      · unfold pF pE
        rw [j10, c1.2.1 _ _ (by omega), b4 x, a1, a3 _ _ (by omega), a3 _ _ (by omega)]
      · unfold pL pE
        rw [j10, c1.2.1 _ _ (by omega), b5 x, a1, a3 _ _ (by omega), a3 _ _ (by omega)]
    · show Prt _ _ q q _ _ _ gEps
      refine Prt.eps.eq ?_ (fun x => ?_) (fun x => ?_) (fun _ _ _ _ => Iff.rfl)
      · unfold pE
        rw [i10 _ _ (by omega), c2]
        exact ⟨fun _ => by decide, fun _ => trivial⟩
      · unfold pF
        rw [j10, c3]
        exact ⟨fun z => z.elim, fun z => absurd z b64_0⟩
      · unfold pL
        rw [j10, c4]
        exact ⟨fun z => z.elim, fun z => absurd z b64_0⟩
  · intro o ho
    rw [i10 _ _ (by omega)]
    by_cases z2 : o = 3 * d + 2
    · rw [z2, c2]; exact Or.inr rfl
    · rw [c1.1 _ _ (by omega)]
      by_cases z1 : o = 3 * d + 1
      · rw [z1]; exact b2
      · rw [b1.1 _ _ (by omega)]; exact hgs o ho
