/-! ===== the class holds a word against the signs ===== -/
def fitX (w : Nat) (σ : SG) (x : Nat) (v : Int) : Prop := (σ.1 (21 + w) x).toInt ≤ v ∧ v ≤ (σ.1 (23 + w) x).toInt
def FlX (w : Nat) (σ : SG) (A : Nat) (x y : Nat) : Prop := x < A ∧ b64 (σ.2.1 (144 + w) x) y
def XWa (w A : Nat) (σ : SG) : Prop := w < 2 ∧ A ≤ 50 ∧ (σ.1 (203 + w) 0).toInt = A ∧ (∀ x, b64 (σ.2.1 (203 + w) 1) x → x < A) ∧ (∀ x, b64 (σ.2.1 (203 + w) 2) x → x < A) ∧ ∀ x y, x < A → b64 (σ.2.1 (144 + w) x) y → y < A
def XWd (Lw : LG) (w : Nat) (σ : SG) : Prop := ∃ A, XWa w A σ ∧ ∀ sg N i j, i < j → (AccG (fitX w σ) (FlX w σ A) False (b64 (σ.2.1 (203 + w) 1)) (b64 (σ.2.1 (203 + w) 2)) sg N i j ↔ Lw sg N i j)
theorem rgX_w {w i : Nat} (h : w < 2) : rgX (21 + w) i = 4 ∧ rgX (23 + w) i = 4 ∧ rgX (203 + w) 0 = 4 ∧ rgX (203 + w) 7 = 8 ∧ rgXJ (144 + w) i = 4 ∧ rgXJ (146 + w) i = 8 ∧ rgXJ (203 + w) i = 4 := by
  have hc : w = 0 ∨ w = 1 := by omega
  rcases hc with rfl | rfl <;> exact ⟨rfl, rfl, rfl, rfl, rfl, rfl, rfl⟩
theorem XWa.fr {w A : Nat} {G : List Nat} {σ σ' : SG} (h : XWa w A σ) (f : frX G σ σ') (q : 4 ∉ G) : XWa w A σ' ∧ (∀ x v, fitX w σ' x v ↔ fitX w σ x v) ∧ (∀ x y, FlX w σ' A x y ↔ FlX w σ A x y) ∧ σ'.2.1 (203 + w) 1 = σ.2.1 (203 + w) 1 ∧ σ'.2.1 (203 + w) 2 = σ.2.1 (203 + w) 2 := by
  obtain ⟨h1, h2, h3, h4, h5, h6⟩ := h
  have g := fun i => @rgX_w w i h1
  have j1 : σ'.2.1 (203 + w) 1 = σ.2.1 (203 + w) 1 := f.2.1 _ _ (by rw [(g 1).2.2.2.2.2.2]; exact q)
  have j2 : σ'.2.1 (203 + w) 2 = σ.2.1 (203 + w) 2 := f.2.1 _ _ (by rw [(g 2).2.2.2.2.2.2]; exact q)
  have j3 : ∀ x, σ'.2.1 (144 + w) x = σ.2.1 (144 + w) x := fun x => f.2.1 _ _ (by rw [(g x).2.2.2.2.1]; exact q)
  refine ⟨⟨h1, h2, by rw [f.1 _ _ (by rw [(g 0).2.2.1]; exact q)]; exact h3, by rw [j1]; exact h4, by rw [j2]; exact h5, fun x y hx => by rw [j3]; exact h6 x y hx⟩, fun x v => ?_, fun x y => ?_, j1, j2⟩
  · unfold fitX
    rw [f.1 _ _ (by rw [(g x).1]; exact q), f.1 _ _ (by rw [(g x).2.1]; exact q)]
  · unfold FlX
    rw [j3]
theorem Rp.eq {fit fit' : Nat → Int → Prop} {Fl Fl' : Nat → Nat → Prop} (hf : ∀ x v, fit' x v ↔ fit x v) (hl : ∀ x y, Fl' x y ↔ Fl x y) {sg : Nat → Int} {N x i y j : Nat} : Run fit' Fl' sg N x i y j ↔ Run fit Fl sg N x i y j := by
  have e1 : fit' = fit := funext fun x => funext fun v => propext (hf x v)
  have e2 : Fl' = Fl := funext fun x => funext fun y => propext (hl x y)
  rw [e1, e2]
theorem XWd.fr {Lw : LG} {w : Nat} {G : List Nat} {σ σ' : SG} (h : XWd Lw w σ) (f : frX G σ σ') (q : 4 ∉ G) : XWd Lw w σ' := by
  obtain ⟨A, h1, h2⟩ := h
  obtain ⟨a1, a2, a3, a4, a5⟩ := h1.fr f q
  refine ⟨A, a1, fun sg N i j hij => ?_⟩
  rw [← h2 sg N i j hij, a4, a5]
  unfold AccG
  simp only [Rp.eq a2 a3]
section XW
variable {w A : Nat}
theorem x_atomsFor {σ : SG} (hW : XWa w A σ) {l1 : Int32} : ∀ (d fuel a : Nat) (l2 : Int64) (l4 : Int32), d < fuel → a + d = A → l4.toInt = a → (∀ x, b64 l2 x ↔ x < a ∧ fitX w σ x l1.toInt) → uOk (m_X9_atomsFor_5 w fuel σ l1 l2 l4) (fun v s => s = σ ∧ ∀ x, b64 v x ↔ x < A ∧ fitX w σ x l1.toInt) := by
  obtain ⟨h1, h2, h3, -⟩ := id hW
  intro d
  induction d with
  | zero =>
    intro fuel a l2 l4 hf hr h4 hd
    cases fuel with
    | zero => omega
    | succ fuel =>
      show uOk (m_X9_atomsFor_5_s w _ σ l1 l2 l4) _
      unfold m_X9_atomsFor_5_s
      exact ok_ite (fun _ => ok_r ⟨rfl, by rw [show A = a by omega]; exact hd⟩) (fun q => absurd (z_le.mpr (by rw [h3, h4]; omega)) q)
  | succ d ih =>
    intro fuel a l2 l4 hf hr h4 hd
    cases fuel with
    | zero => omega
    | succ fuel =>
      show uOk (m_X9_atomsFor_5_s w _ σ l1 l2 l4) _
      unfold m_X9_atomsFor_5_s m_X9_atomsFor_43
      rw [z_nv h4]
      have nx : ∀ v : Int32, v = l4 + 1 → v.toInt = (a + 1 : Nat) := fun v ev => by rw [ev, z_add1 (by omega), h4]; rfl
      have hno : ¬ fitX w σ a l1.toInt → ∀ x, b64 l2 x ↔ x < a + 1 ∧ fitX w σ x l1.toInt := fun q x => by
        rw [hd x]
        constructor
        · exact fun z => ⟨by omega, z.2⟩
        · intro z
          refine ⟨?_, z.2⟩
          have : x ≠ a := fun e => q (by rw [← e]; exact z.2)
          omega
      refine ok_ite (fun q => absurd (z_le.mp q) (by rw [h3, h4]; omega)) (fun _ => ok_i (by omega) (ok_ite (fun q => ok_l fun v ev => ih fuel (a + 1) l2 v (by omega) (by omega) (nx v ev) (hno (fun z => by rw [z_lt] at q; have := z.1; omega))) (fun q1 => ok_i (by omega) (ok_ite (fun q => ok_l fun v ev => ih fuel (a + 1) l2 v (by omega) (by omega) (nx v ev) (hno (fun z => by rw [z_lt] at q; have := z.2; omega))) (fun q2 => ok_l fun v6 e6 => ok_l fun v ev => ih fuel (a + 1) v6 v (by omega) (by omega) (nx v ev) (fun x => ?_))))))
      rw [z_lt] at q1 q2
      rw [e6, b64_or, b64_one h4 (by omega), hd x]
      constructor
      · rintro (z | rfl)
        · exact ⟨by omega, z.2⟩
        · exact ⟨by omega, ⟨by omega, by omega⟩⟩
      · rintro ⟨z1, z2⟩
        by_cases e : x = a
        · exact Or.inr e
        · exact Or.inl ⟨by omega, z2⟩
/-- which atoms stand for which sign -/
def XFt (w A : Nat) (sg : Nat → Int) (N : Nat) (σ : SG) : Prop := (σ.1 (203 + w) 7).toInt = N ∧ ∀ k, k < N → ∀ x, b64 (σ.2.1 (146 + w) k) x ↔ x < A ∧ fitX w σ x (sg k)
theorem x_hold {sg : Nat → Int} {N : Nat} : ∀ (d fuel k : Nat) (σ : SG) (l2 : Int32), d < fuel → k + d = N → XWa w A σ → XSg sg N σ → l2.toInt = k → (σ.1 (203 + w) 7).toInt = N → (∀ j, j < k → ∀ x, b64 (σ.2.1 (146 + w) j) x ↔ x < A ∧ fitX w σ x (sg j)) → uOk (m_X9_hold_10 w fuel σ l2) (fun _ σ' => frX [8] σ σ' ∧ XFt w A sg N σ' ∧ XSg sg N σ') := by
  intro d
  induction d with
  | zero =>
    intro fuel k σ l2 hf hr hW hS h2 h7 hd
    cases fuel with
    | zero => omega
    | succ fuel =>
      show uOk (m_X9_hold_10_s w _ σ l2) _
      unfold m_X9_hold_10_s
      exact ok_ite (fun _ => ok_r ⟨frX.rf, ⟨h7, by rw [show N = k by omega]; exact hd⟩, hS⟩) (fun q => absurd (z_le.mpr (by rw [h7, h2]; omega)) q)
  | succ d ih =>
    intro fuel k σ l2 hf hr hW hS h2 h7 hd
    cases fuel with
    | zero => omega
    | succ fuel =>
      show uOk (m_X9_hold_10_s w _ σ l2) _
      unfold m_X9_hold_10_s
      have hN := hS.1
      have hw := hW.1
      have hA := hW.2.1
      rw [z_nv h2]
      refine ok_ite (fun q => absurd (z_le.mp q) (by rw [h7, h2]; omega)) (fun _ => ok_i (by omega) (ok_b (Q := fun v s => s = σ ∧ ∀ x, b64 v x ↔ x < A ∧ fitX w σ x (sg k)) ?_ (fun v5 s6 h5 => ?_)))
      · unfold m_X9_atomsFor m_X9_atomsFor_0
        have := x_atomsFor hW (l1 := σ.1 20 k) A FV 0 0 0 (FV_big (by omega)) (by omega) rfl (fun x => ⟨fun z => absurd z b64_0, fun z => absurd z.1 (by omega)⟩)
        rw [hS.2.2 k (by omega)] at this
        exact this
      · obtain ⟨rfl, h5⟩ := h5
        refine ok_i (by omega) (ok_l fun s9 e9 => ok_l fun v ev => ?_)
        have hF : frX [8] s6 s9 := by rw [e9]; exact frX.rf.sJ (by rw [(@rgX_w w k hw).2.2.2.2.2.1]; decide)
        obtain ⟨a1, a2, a3, -⟩ := hW.fr hF (by decide)
        have hi : s9.1 = s6.1 := by rw [e9]; rfl
        have hfit : ∀ x v, fitX w s9 x v ↔ fitX w s6 x v := fun x v => by unfold fitX; rw [hi]
        refine (ih fuel (k + 1) s9 v (by omega) (by omega) a1 ⟨hS.1, by rw [hi]; exact hS.2.1, fun j hj => by rw [hi]; exact hS.2.2 j hj⟩ (by rw [ev, z_add1 (by omega), h2]; rfl) (by rw [hi]; exact h7) (fun j hj x => ?_)).mono (fun _ s h => ⟨hF.tr h.1, h.2⟩)
        rw [hfit, e9, g_sJ]
        by_cases e : j = k
        · rw [if_pos ⟨rfl, e⟩, e]; exact h5 x
        · rw [if_neg (fun z => e z.2)]; exact hd j (by omega) x
theorem x_followers {σ : SG} (hW : XWa w A σ) {l1 : Int64} (h1 : ∀ x, b64 l1 x → x < A) : ∀ (d fuel a : Nat) (l3 : Int64) (l5 : Int32), d < fuel → a + d = A → l5.toInt = a → (∀ y, b64 l3 y ↔ ∃ x, x < a ∧ b64 l1 x ∧ b64 (σ.2.1 (144 + w) x) y) → uOk (m_X9_followers_5 w fuel σ l1 l3 l5) (fun v s => s = σ ∧ ∀ y, b64 v y ↔ ∃ x, b64 l1 x ∧ FlX w σ A x y) := by
  obtain ⟨g1, g2, g3, -⟩ := id hW
  have fin : ∀ (a : Nat) (l3 : Int64), (∀ y, b64 l3 y ↔ ∃ x, x < a ∧ b64 l1 x ∧ b64 (σ.2.1 (144 + w) x) y) → (∀ x, b64 l1 x → x < a) → ∀ y, b64 l3 y ↔ ∃ x, b64 l1 x ∧ FlX w σ A x y := fun a l3 hd ha y => by
    rw [hd y]
    constructor
    · rintro ⟨x, z1, z2, z3⟩; exact ⟨x, z2, h1 x z2, z3⟩
    · rintro ⟨x, z1, z2, z3⟩; exact ⟨x, ha x z1, z1, z3⟩
  intro d
  induction d with
  | zero =>
    intro fuel a l3 l5 hf hr h5 hd
    cases fuel with
    | zero => omega
    | succ fuel =>
      show uOk (m_X9_followers_5_s w _ σ l1 l3 l5) _
      unfold m_X9_followers_5_s
      exact ok_ite (fun _ => ok_r ⟨rfl, fin a l3 hd (fun x z => by have := h1 x z; omega)⟩) (fun q => absurd (z_le.mpr (by rw [g3, h5]; omega)) q)
  | succ d ih =>
    intro fuel a l3 l5 hf hr h5 hd
    cases fuel with
    | zero => omega
    | succ fuel =>
      show uOk (m_X9_followers_5_s w _ σ l1 l3 l5) _
      unfold m_X9_followers_5_s m_X9_followers_44
      have nx : ∀ v : Int32, v = l5 + 1 → v.toInt = (a + 1 : Nat) := fun v ev => by rw [ev, z_add1 (by omega), h5]; rfl
      rw [z_nv h5]
      refine ok_ite (fun q => absurd (z_le.mp q) (by rw [g3, h5]; omega)) (fun _ => ok_ite (fun q => ok_r ⟨rfl, fin a l3 hd (fun x z => ?_)⟩) (fun _ => ok_ite (fun q => ok_l fun v ev => ih fuel (a + 1) l3 v (by omega) (by omega) (nx v ev) (fun y => ?_)) (fun q => ok_i (by omega) (ok_l fun v5 e5 => ok_l fun v ev => ih fuel (a + 1) v5 v (by omega) (by omega) (nx v ev) (fun y => ?_)))))
      · exact Nat.not_le.mp (fun y => (b64_rest h5 (by omega)).mp q x y z)
      · have hq := (b64_test h5 (by omega)).mp q
        rw [hd y]
        constructor
        · rintro ⟨x, z1, z2⟩; exact ⟨x, by omega, z2⟩
        · rintro ⟨x, z1, z2, z3⟩
          exact ⟨x, by have : x ≠ a := fun e => hq (by rw [← e]; exact z2); omega, z2, z3⟩
      · have hq : b64 l1 a := Classical.not_not.mp (fun z => q ((b64_test h5 (by omega)).mpr z))
        rw [e5, b64_or, hd y]
        constructor
        · rintro (⟨x, z1, z2⟩ | z)
          · exact ⟨x, by omega, z2⟩
          · exact ⟨a, by omega, hq, z⟩
        · rintro ⟨x, z1, z2, z3⟩
          by_cases e : x = a
          · rw [e] at z3; exact Or.inr z3
          · exact Or.inl ⟨x, by omega, z2, z3⟩
end XW
/-- the longest row from the place p has m signs; 0 for none -/
def lgst (Lw : LG) (sg : Nat → Int) (N p m : Nat) : Prop := p + m ≤ N ∧ (0 < m → Lw sg N p (p + m)) ∧ ∀ j, p + m < j → j ≤ N → ¬ Lw sg N p j
theorem lgst.uniq {Lw : LG} {sg : Nat → Int} {N p m m' : Nat} (h : lgst Lw sg N p m) (q : lgst Lw sg N p m') : m = m' := by
  obtain ⟨a1, a2, a3⟩ := h
  obtain ⟨b1, b2, b3⟩ := q
  by_cases z : m < m'
  · exact absurd (b2 (by omega)) (a3 _ (by omega) b1)
  · by_cases y : m' < m
    · exact absurd (a2 (by omega)) (b3 _ (by omega) a1)
    · omega
theorem x_longest {Lw : LG} {w A : Nat} {sg : Nat → Int} {N p : Nat} {σ : SG} {l1 : Int32} (hW : XWa w A σ) (hL : ∀ i j, i < j → (AccG (fitX w σ) (FlX w σ A) False (b64 (σ.2.1 (203 + w) 1)) (b64 (σ.2.1 (203 + w) 2)) sg N i j ↔ Lw sg N i j)) (hT : XFt w A sg N σ) (hN : N ≤ 24) (hp : p < N) (h1 : l1.toInt = p) :
    ∀ (d fuel s m : Nat) (l2 : Int32) (l3 : Int64) (l5 : Int32), d < fuel → s + d = N → p ≤ s → l2.toInt = m → p + m ≤ s → (0 < m → Lw sg N p (p + m)) → (∀ j, p + m < j → j ≤ s → ¬ Lw sg N p j) → (∀ x, b64 l3 x ↔ (s = p ∧ b64 (σ.2.1 (203 + w) 1) x) ∨ ∃ x0 z s', s = s' + 1 ∧ b64 (σ.2.1 (203 + w) 1) x0 ∧ Run (fitX w σ) (FlX w σ A) sg N x0 p z s' ∧ FlX w σ A z x) → l5.toInt = s → uOk (m_X9_longestFrom_10 w fuel σ l1 l2 l3 l5) (fun v s' => s' = σ ∧ ∃ m, v.toInt = (m : Nat) ∧ lgst Lw sg N p m) := by
  obtain ⟨g1, g2, g3, g4, g5, g6⟩ := id hW
  intro d
  induction d with
  | zero =>
    intro fuel s m l2 l3 l5 hf hr hps h2 hm hlm hno h3 h5
    cases fuel with
    | zero => omega
    | succ fuel =>
      show uOk (m_X9_longestFrom_10_s w _ σ l1 l2 l3 l5) _
      unfold m_X9_longestFrom_10_s
      exact ok_ite (fun _ => ok_r ⟨rfl, m, h2, by omega, hlm, fun j hj1 hj2 => hno j hj1 (by omega)⟩) (fun q => absurd (z_le.mpr (by rw [hT.1, h5]; omega)) q)
  | succ d ih =>
    intro fuel s m l2 l3 l5 hf hr hps h2 hm hlm hno h3 h5
    cases fuel with
    | zero => omega
    | succ fuel =>
      show uOk (m_X9_longestFrom_10_s w _ σ l1 l2 l3 l5) _
      unfold m_X9_longestFrom_10_s m_X9_longestFrom_55
      rw [z_nv h5]
      refine ok_ite (fun q => absurd (z_le.mp q) (by rw [hT.1, h5]; omega)) (fun _ => ok_ite (fun q => ok_r ⟨rfl, m, h2, by omega, hlm, fun j hj1 hj2 hj3 => ?_⟩) (fun _ => ok_i (by omega) (ok_l fun v6 e6 => ?_)))
      · -- nothing is open: no run comes to s
        have hz := b64_z.mp (lg0.mp q)
        by_cases hjs : j ≤ s
        · exact hno j hj1 hjs hj3
        · rcases (hL p j (by omega)).mpr hj3 with ⟨-, z⟩ | ⟨x, y, j', f1, f2, f3, rfl⟩
          · exact z
          · have none : ∀ n y j', Rp (fitX w σ) (FlX w σ A) sg N n x p y j' → s ≤ j' → False := by
              intro n
              induction n with
              | zero =>
                intro y j' hr' hs
                obtain ⟨rfl, rfl, -⟩ := hr'
                exact hz y ((h3 y).mpr (Or.inl ⟨by omega, f1⟩))
              | succ n ihn =>
                intro y j' hr' hs
                obtain ⟨z, j2, c1, rfl, c2, -⟩ := hr'
                by_cases e : j2 + 1 = s
                · exact hz y ((h3 y).mpr (Or.inr ⟨x, z, j2, e.symm, f1, ⟨n, c1⟩, c2⟩))
                · exact ihn z j2 c1 (by omega)
            obtain ⟨n, f3⟩ := f3
            exact none n y j' f3 (by omega)
      · have h6 : ∀ x, b64 v6 x ↔ ∃ x0, b64 (σ.2.1 (203 + w) 1) x0 ∧ Run (fitX w σ) (FlX w σ A) sg N x0 p x s := fun x => by
          rw [e6, b64_and, hT.2 s (by omega) x, h3 x]
          constructor
          · rintro ⟨⟨rfl, z⟩ | ⟨x0, y, s', rfl, c1, c2, c3⟩, z2, z3⟩
            · exact ⟨x, z, Run.one (by omega) z3⟩
            · exact ⟨x0, c1, c2.snoc c3 (by omega) z3⟩
          · rintro ⟨x0, c1, ⟨n, c2⟩⟩
            cases n with
            | zero =>
              obtain ⟨rfl, rfl, -, c4⟩ := c2
              exact ⟨Or.inl ⟨rfl, c1⟩, g4 x c1, c4⟩
            | succ n =>
              obtain ⟨y, j2, c3, rfl, c4, -, c5⟩ := c2
              exact ⟨Or.inr ⟨x0, y, j2, rfl, c1, ⟨n, c3⟩, c4⟩, g6 y x c4.1 c4.2, c5⟩
        have h6A : ∀ x, b64 v6 x → x < A := fun x hx => by
          rw [e6, b64_and, hT.2 s (by omega) x] at hx
          exact hx.2.1
        have acc : Lw sg N p (s + 1) ↔ ∃ x, b64 v6 x ∧ b64 (σ.2.1 (203 + w) 2) x := by
          rw [← hL p (s + 1) (by omega)]
          constructor
          · rintro (⟨-, z⟩ | ⟨x, y, j', f1, f2, f3, f4⟩)
            · exact z.elim
            · rw [show j' = s by omega] at f3
              exact ⟨y, (h6 y).mpr ⟨x, f1, f3⟩, f2⟩
          · rintro ⟨y, z1, z2⟩
            obtain ⟨x, c1, c2⟩ := (h6 y).mp z1
            exact Or.inr ⟨x, y, s, c1, z2, c2, rfl⟩
        have next : ∀ (m' : Nat) (l2' : Int32), l2'.toInt = m' → p + m' ≤ s + 1 → (0 < m' → Lw sg N p (p + m')) → (∀ j, p + m' < j → j ≤ s + 1 → ¬ Lw sg N p j) → uOk (bi (m_X9_followers w σ v6) (fun v11 σ12 => lS (l5 + 1) (fun v14 => m_X9_longestFrom_10 w fuel σ12 l1 l2' v11 v14))) (fun v s' => s' = σ ∧ ∃ m, v.toInt = (m : Nat) ∧ lgst Lw sg N p m) := fun m' l2' hl2 hm' hlm' hno' => by
          refine ok_b (Q := fun v s => s = σ ∧ ∀ y, b64 v y ↔ ∃ x, b64 v6 x ∧ FlX w σ A x y) ?_ (fun v11 s12 h11 => ?_)
          · unfold m_X9_followers m_X9_followers_0
            exact x_followers hW h6A A FV 0 0 0 (FV_big (by omega)) (by omega) rfl (fun y => ⟨fun z => absurd z b64_0, fun ⟨x, z, _⟩ => absurd z (by omega)⟩)
          · obtain ⟨rfl, h11⟩ := h11
            refine ok_l fun v14 e14 => ih fuel (s + 1) m' l2' v11 v14 (by omega) (by omega) (by omega) hl2 hm' hlm' hno' (fun x => ?_) (by rw [e14, z_add1 (by omega), h5]; rfl)
            rw [h11 x]
            constructor
            · rintro ⟨z, c1, c2⟩
              obtain ⟨x0, c3, c4⟩ := (h6 z).mp c1
              exact Or.inr ⟨x0, z, s, rfl, c3, c4, c2⟩
            · rintro (⟨e, -⟩ | ⟨x0, z, s', e, c1, c2, c3⟩)
              · omega
              · rw [show s' = s by omega] at c2
                exact ⟨z, (h6 z).mpr ⟨x0, c1, c2⟩, c3⟩
        refine ok_ite (fun q => next m l2 h2 (by omega) hlm (fun j hj1 hj2 hj3 => ?_)) (fun q => ok_l fun v9 e9 => next (s - p + 1) v9 ?_ (by omega) (fun _ => ?_) (fun j hj1 hj2 => by omega))
        · by_cases e : j = s + 1
          · rw [e] at hj3
            obtain ⟨x, z1, z2⟩ := acc.mp hj3
            exact b64_z.mp (lg0.mp q) x (b64_and.mpr ⟨z1, z2⟩)
          · exact hno j hj1 (by omega) hj3
        · rw [e9, z_add1 (by rw [z_subv h5 h1 (by omega) (by omega)]; omega), z_subv h5 h1 (by omega) (by omega)]
          omega
        · rw [show p + (s - p + 1) = s + 1 by omega, acc]
          refine Classical.byContradiction (fun z => q (lg0.mpr (b64_z.mpr (fun x hx => z ⟨x, ?_⟩))))
          exact b64_and.mp hx
theorem x_longestFrom {Lw : LG} {w A : Nat} {sg : Nat → Int} {N p : Nat} {σ : SG} {p0 : Int32} (hW : XWa w A σ) (hL : ∀ i j, i < j → (AccG (fitX w σ) (FlX w σ A) False (b64 (σ.2.1 (203 + w) 1)) (b64 (σ.2.1 (203 + w) 2)) sg N i j ↔ Lw sg N i j)) (hT : XFt w A sg N σ) (hN : N ≤ 24) (hp : p < N) (h1 : p0.toInt = p) : uOk (m_X9_longestFrom w σ p0) (fun v s' => s' = σ ∧ ∃ m, v.toInt = (m : Nat) ∧ lgst Lw sg N p m) := by
  unfold m_X9_longestFrom m_X9_longestFrom_0
  refine ok_l fun v1 e1 => x_longest hW hL hT hN hp h1 (N - p) FV p 0 0 v1 p0 (FV_big (by omega)) (by omega) (Nat.le_refl _) rfl (by omega) (fun z => by omega) (fun j hj1 hj2 => by omega) (fun x => ?_) h1
  rw [e1]
  constructor
  · exact fun z => Or.inl ⟨rfl, z⟩
  · rintro (z | ⟨x0, y, s', e, -, c, -⟩)
    · exact z.2
    · have := c.b
      omega
