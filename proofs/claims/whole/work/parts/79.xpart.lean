/-! ===== the class's parts of a word ===== -/
def frPt (o : Nat) (σ σ' : SG) : Prop := (∀ k i, k ≠ 176 + o → σ'.1 k i = σ.1 k i) ∧ (∀ k i, k ≠ 176 + o → σ'.2.1 k i = σ.2.1 k i) ∧ σ'.2.2 = σ.2.2
theorem x_become {o : Nat} {σ : SG} {e : Int32} {f l : Int64} (he : e = 0 ∨ e = 1) : uOk (m_X5_become o σ e f l) (fun _ σ' => frPt o σ σ' ∧ σ'.1 (176 + o) 0 = e ∧ σ'.2.1 (176 + o) 1 = f ∧ σ'.2.1 (176 + o) 2 = l) := by
  unfold m_X5_become m_X5_become_0
  refine ok_g (by rcases he with rfl | rfl <;> decide) (ok_l fun s2 e2 => ok_l fun s4 e4 => ok_l fun s6 e6 => ok_r ⟨⟨fun k i h => ?_, fun k i h => ?_, ?_⟩, ?_, ?_, ?_⟩)
  · rw [e6, g_sJ1, e4, g_sJ1, e2, g_sI, if_neg (fun z => h z.1)]
  · rw [e6, g_sJ, if_neg (fun z => h z.1), e4, g_sJ, if_neg (fun z => h z.1), e2, g_sI2]
  · rw [e6, g_sJ3, e4, g_sJ3, e2, g_sI2]
  · rw [e6, g_sJ1, e4, g_sJ1, e2, g_sI_s]
  · rw [e6, g_sJ, if_neg (by omega), e4, g_sJ, if_pos ⟨rfl, rfl⟩]
  · rw [e6, g_sJ, if_pos ⟨rfl, rfl⟩]
theorem x_behind {o r : Nat} {σ : SG} : uOk (m_X5_addBehind o r σ) (fun _ σ' => frPt o σ σ' ∧ (σ'.1 (176 + o) 0 = 0 ∨ σ'.1 (176 + o) 0 = 1) ∧ (¬ σ'.1 (176 + o) 0 = 0 ↔ ¬ σ.1 (176 + o) 0 = 0 ∧ ¬ σ.1 (176 + r) 0 = 0) ∧ (∀ x, b64 (σ'.2.1 (176 + o) 1) x ↔ b64 (σ.2.1 (176 + o) 1) x ∨ (¬ σ.1 (176 + o) 0 = 0 ∧ b64 (σ.2.1 (176 + r) 1) x)) ∧ (∀ x, b64 (σ'.2.1 (176 + o) 2) x ↔ b64 (σ.2.1 (176 + r) 2) x ∨ (¬ σ.1 (176 + r) 0 = 0 ∧ b64 (σ.2.1 (176 + o) 2) x))) := by
  have m24 : ∀ s0 : Int64, (∀ x, b64 s0 x ↔ b64 (σ.2.1 (176 + o) 1) x ∨ (¬ σ.1 (176 + o) 0 = 0 ∧ b64 (σ.2.1 (176 + r) 1) x)) → uOk (m_X5_addBehind_24 o r σ s0) (fun _ σ' => frPt o σ σ' ∧ (σ'.1 (176 + o) 0 = 0 ∨ σ'.1 (176 + o) 0 = 1) ∧ (¬ σ'.1 (176 + o) 0 = 0 ↔ ¬ σ.1 (176 + o) 0 = 0 ∧ ¬ σ.1 (176 + r) 0 = 0) ∧ (∀ x, b64 (σ'.2.1 (176 + o) 1) x ↔ b64 (σ.2.1 (176 + o) 1) x ∨ (¬ σ.1 (176 + o) 0 = 0 ∧ b64 (σ.2.1 (176 + r) 1) x)) ∧ (∀ x, b64 (σ'.2.1 (176 + o) 2) x ↔ b64 (σ.2.1 (176 + r) 2) x ∨ (¬ σ.1 (176 + r) 0 = 0 ∧ b64 (σ.2.1 (176 + o) 2) x))) := fun s0 hs0 => by
    unfold m_X5_addBehind_24
    refine ok_l fun s2 e2 => ?_
    have i2 : s2.1 = σ.1 := by rw [e2]; rfl
    have m51 : ∀ t0 : Int64, (∀ x, b64 t0 x ↔ b64 (σ.2.1 (176 + r) 2) x ∨ (¬ σ.1 (176 + r) 0 = 0 ∧ b64 (σ.2.1 (176 + o) 2) x)) → uOk (m_X5_addBehind_51 o r s2 t0) (fun _ σ' => frPt o σ σ' ∧ (σ'.1 (176 + o) 0 = 0 ∨ σ'.1 (176 + o) 0 = 1) ∧ (¬ σ'.1 (176 + o) 0 = 0 ↔ ¬ σ.1 (176 + o) 0 = 0 ∧ ¬ σ.1 (176 + r) 0 = 0) ∧ (∀ x, b64 (σ'.2.1 (176 + o) 1) x ↔ b64 (σ.2.1 (176 + o) 1) x ∨ (¬ σ.1 (176 + o) 0 = 0 ∧ b64 (σ.2.1 (176 + r) 1) x)) ∧ (∀ x, b64 (σ'.2.1 (176 + o) 2) x ↔ b64 (σ.2.1 (176 + r) 2) x ∨ (¬ σ.1 (176 + r) 0 = 0 ∧ b64 (σ.2.1 (176 + o) 2) x))) := fun t0 ht0 => by
      unfold m_X5_addBehind_51
      refine ok_l fun s5 e5 => ?_
      have i5 : s5.1 = σ.1 := by rw [e5]; exact i2
      have fin : ∀ (s : SG) (z : Int32), s = sI s5 (176 + o) 0 z → (z = 0 ∨ z = 1) → (¬ z = 0 ↔ ¬ σ.1 (176 + o) 0 = 0 ∧ ¬ σ.1 (176 + r) 0 = 0) → (frPt o σ s ∧ (s.1 (176 + o) 0 = 0 ∨ s.1 (176 + o) 0 = 1) ∧ (¬ s.1 (176 + o) 0 = 0 ↔ ¬ σ.1 (176 + o) 0 = 0 ∧ ¬ σ.1 (176 + r) 0 = 0) ∧ (∀ x, b64 (s.2.1 (176 + o) 1) x ↔ b64 (σ.2.1 (176 + o) 1) x ∨ (¬ σ.1 (176 + o) 0 = 0 ∧ b64 (σ.2.1 (176 + r) 1) x)) ∧ (∀ x, b64 (s.2.1 (176 + o) 2) x ↔ b64 (σ.2.1 (176 + r) 2) x ∨ (¬ σ.1 (176 + r) 0 = 0 ∧ b64 (σ.2.1 (176 + o) 2) x))) := fun s z es hz hz2 => by
        have v : s.1 (176 + o) 0 = z := by rw [es, g_sI_s]
        refine ⟨⟨fun k i h => ?_, fun k i h => ?_, ?_⟩, by rw [v]; exact hz, by rw [v]; exact hz2, fun x => ?_, fun x => ?_⟩
        · rw [es, g_sI, if_neg (fun z => h z.1), i5]
        · rw [es, g_sI2, e5, g_sJ, if_neg (fun z => h z.1), e2, g_sJ, if_neg (fun z => h z.1)]
        · rw [es, g_sI2, e5, g_sJ3, e2, g_sJ3]
        · rw [es, g_sI2, e5, g_sJ, if_neg (by omega), e2, g_sJ, if_pos ⟨rfl, rfl⟩]; exact hs0 x
        · rw [es, g_sI2, e5, g_sJ, if_pos ⟨rfl, rfl⟩]; exact ht0 x
      rw [i5]
      refine ok_ite (fun q => ok_l fun s8 e8 => ok_r (fin s8 0 e8 (Or.inl rfl) ⟨fun z => absurd rfl z, fun z => absurd q z.1⟩)) (fun q => ok_ite (fun q2 => ok_l fun s11 e11 => ok_r (fin s11 0 e11 (Or.inl rfl) ⟨fun z => absurd rfl z, fun z => absurd q2 z.2⟩)) (fun q2 => ok_l fun s13 e13 => ok_r (fin s13 1 e13 (Or.inr rfl) ⟨fun _ => ⟨q, q2⟩, fun _ => by decide⟩)))
    have j2 : ∀ k i, ¬ (k = 176 + o ∧ i = 1) → s2.2.1 k i = σ.2.1 k i := fun k i h => by rw [e2, g_sJ, if_neg h]
    rw [i2, j2 (176 + r) 2 (by omega), j2 (176 + o) 2 (by omega)]
    refine ok_ite (fun q => m51 _ (fun x => ⟨fun z => Or.inl z, fun z => z.elim (fun z => z) (fun z => absurd q z.1)⟩)) (fun q => m51 _ (fun x => ?_))
    rw [b64_or]
    constructor
    · rintro (z | z)
      · exact Or.inr ⟨q, z⟩
      · exact Or.inl z
    · rintro (z | z)
      · exact Or.inr z
      · exact Or.inl z.2
  unfold m_X5_addBehind m_X5_addBehind_0
  refine ok_ite (fun q => m24 _ (fun x => ⟨fun z => Or.inl z, fun z => z.elim (fun z => z) (fun z => absurd q z.1)⟩)) (fun q => m24 _ (fun x => ?_))
  rw [b64_or]
  constructor
  · rintro (z | z)
    · exact Or.inl z
    · exact Or.inr ⟨q, z⟩
  · rintro (z | z)
    · exact Or.inl z
    · exact Or.inr z.2
theorem x_choice {o r : Nat} {σ : SG} : uOk (m_X5_addChoice o r σ) (fun _ σ' => frPt o σ σ' ∧ (σ'.1 (176 + o) 0 = 0 ∨ σ'.1 (176 + o) 0 = 1) ∧ (¬ σ'.1 (176 + o) 0 = 0 ↔ ¬ σ.1 (176 + o) 0 = 0 ∨ ¬ σ.1 (176 + r) 0 = 0) ∧ (∀ x, b64 (σ'.2.1 (176 + o) 1) x ↔ b64 (σ.2.1 (176 + o) 1) x ∨ b64 (σ.2.1 (176 + r) 1) x) ∧ (∀ x, b64 (σ'.2.1 (176 + o) 2) x ↔ b64 (σ.2.1 (176 + o) 2) x ∨ b64 (σ.2.1 (176 + r) 2) x)) := by
  have m20 : ∀ z : Int32, (z = 0 ∨ z = 1) → (¬ z = 0 ↔ ¬ σ.1 (176 + o) 0 = 0 ∨ ¬ σ.1 (176 + r) 0 = 0) → uOk (m_X5_addChoice_20 o r σ z) (fun _ σ' => frPt o σ σ' ∧ (σ'.1 (176 + o) 0 = 0 ∨ σ'.1 (176 + o) 0 = 1) ∧ (¬ σ'.1 (176 + o) 0 = 0 ↔ ¬ σ.1 (176 + o) 0 = 0 ∨ ¬ σ.1 (176 + r) 0 = 0) ∧ (∀ x, b64 (σ'.2.1 (176 + o) 1) x ↔ b64 (σ.2.1 (176 + o) 1) x ∨ b64 (σ.2.1 (176 + r) 1) x) ∧ (∀ x, b64 (σ'.2.1 (176 + o) 2) x ↔ b64 (σ.2.1 (176 + o) 2) x ∨ b64 (σ.2.1 (176 + r) 2) x)) := fun z hz hz2 => by
    unfold m_X5_addChoice_20
    refine ok_g (by rcases hz with rfl | rfl <;> decide) (ok_l fun s4 e4 => ok_l fun s6 e6 => ok_l fun s8 e8 => ok_r ?_)
    have j4 : s4.2 = σ.2 := by rw [e4]; rfl
    have j6 : ∀ k i, ¬ (k = 176 + o ∧ i = 1) → s6.2.1 k i = σ.2.1 k i := fun k i h => by rw [e6, g_sJ, if_neg h, j4]
    have v : s8.1 (176 + o) 0 = z := by rw [e8, g_sJ1, e6, g_sJ1, e4, g_sI_s]
    refine ⟨⟨fun k i h => ?_, fun k i h => ?_, ?_⟩, by rw [v]; exact hz, by rw [v]; exact hz2, fun x => ?_, fun x => ?_⟩
    · rw [e8, g_sJ1, e6, g_sJ1, e4, g_sI, if_neg (fun z => h z.1)]
    · rw [e8, g_sJ, if_neg (fun z => h z.1), j6 k i (fun z => h z.1)]
    · rw [e8, g_sJ3, e6, g_sJ3, j4]
    · rw [e8, g_sJ, if_neg (by omega), e6, g_sJ, if_pos ⟨rfl, rfl⟩, j4, b64_or]
    · rw [e8, g_sJ, if_pos ⟨rfl, rfl⟩, j6 (176 + o) 2 (by omega), j6 (176 + r) 2 (by omega), b64_or]
  unfold m_X5_addChoice m_X5_addChoice_0 m_X5_addChoice_15
  refine ok_ite (fun q => m20 1 (Or.inr rfl) ⟨fun _ => Or.inl q, fun _ => by decide⟩) (fun q => ok_ite (fun q2 => m20 0 (Or.inl rfl) ⟨fun z => absurd rfl z, fun z => ?_⟩) (fun q2 => m20 1 (Or.inr rfl) ⟨fun _ => Or.inr q2, fun _ => by decide⟩))
  rcases z with z | z
  · exact absurd z q
  · exact absurd q2 z
theorem x_link {w A : Nat} {ends begins : Int64} (hA : A ≤ 50) : ∀ (d fuel a : Nat) (σ0 σ : SG) (l5 : Int32), d < fuel → a + d = A → (σ.1 (203 + w) 0).toInt = A → l5.toInt = a → σ.1 = σ0.1 → σ.2.2 = σ0.2.2 → (∀ k i, k ≠ 144 + w → σ.2.1 k i = σ0.2.1 k i) → (∀ x, A ≤ x → σ.2.1 (144 + w) x = σ0.2.1 (144 + w) x) → (∀ x, a ≤ x → σ.2.1 (144 + w) x = σ0.2.1 (144 + w) x) → (∀ x y, x < a → (b64 (σ.2.1 (144 + w) x) y ↔ b64 (σ0.2.1 (144 + w) x) y ∨ (b64 ends x ∧ b64 begins y))) → uOk (m_X9_link_3 w fuel σ ends begins l5) (fun _ σ' => σ'.1 = σ0.1 ∧ σ'.2.2 = σ0.2.2 ∧ (∀ k i, k ≠ 144 + w → σ'.2.1 k i = σ0.2.1 k i) ∧ (∀ x, A ≤ x → σ'.2.1 (144 + w) x = σ0.2.1 (144 + w) x) ∧ ∀ x y, x < A → (b64 (σ'.2.1 (144 + w) x) y ↔ b64 (σ0.2.1 (144 + w) x) y ∨ (b64 ends x ∧ b64 begins y))) := by
  intro d
  induction d with
  | zero =>
    intro fuel a σ0 σ l5 hf hr hc h5 h1 h2 h3 h3' h4 hd
    cases fuel with
    | zero => omega
    | succ fuel =>
      show uOk (m_X9_link_3_s w _ σ ends begins l5) _
      unfold m_X9_link_3_s
      exact ok_ite (fun _ => ok_r ⟨h1, h2, h3, h3', fun x y hx => hd x y (by omega)⟩) (fun q => absurd (z_le.mpr (by rw [hc, h5]; omega)) q)
  | succ d ih =>
    intro fuel a σ0 σ l5 hf hr hc h5 h1 h2 h3 h3' h4 hd
    cases fuel with
    | zero => omega
    | succ fuel =>
      show uOk (m_X9_link_3_s w _ σ ends begins l5) _
      unfold m_X9_link_3_s m_X9_link_34
      rw [z_nv h5]
      have nx : ∀ v : Int32, v = l5 + 1 → v.toInt = (a + 1 : Nat) := fun v ev => by rw [ev, z_add1 (by omega), h5]; rfl
      refine ok_ite (fun q => absurd (z_le.mp q) (by rw [hc, h5]; omega)) (fun _ => ok_ite (fun q => ok_l fun v ev => ih fuel (a + 1) σ0 σ v (by omega) (by omega) hc (nx v ev) h1 h2 h3 h3' (fun x hx => h4 x (by omega)) (fun x y hx => ?_)) (fun q => ok_i (by omega) (ok_i (by omega) (ok_l fun s5 e5 => ok_l fun v ev => ih fuel (a + 1) σ0 s5 v (by omega) (by omega) (by rw [e5, g_sJ1]; exact hc) (nx v ev) (by rw [e5, g_sJ1]; exact h1) (by rw [e5, g_sJ3]; exact h2) (fun k i hk => by rw [e5, g_sJ, if_neg (fun z => hk z.1)]; exact h3 k i hk) (fun x hx => by rw [e5, g_sJ, if_neg (by omega)]; exact h3' x hx) (fun x hx => by rw [e5, g_sJ, if_neg (by omega)]; exact h4 x (by omega)) (fun x y hx => ?_)))))
      · by_cases e : x = a
        · rw [e, h4 a (Nat.le_refl _)]
          have := (b64_test h5 (by omega)).mp q
          exact ⟨fun z => Or.inl z, fun z => z.elim (fun z => z) (fun z => absurd z.1 this)⟩
        · exact hd x y (by omega)
      · have hq : b64 ends a := Classical.not_not.mp (fun z => q ((b64_test h5 (by omega)).mpr z))
        rw [e5, g_sJ]
        by_cases e : x = a
        · rw [if_pos ⟨rfl, e⟩, b64_or, h4 a (Nat.le_refl _), e]
          exact ⟨fun z => z.elim (fun z => Or.inl z) (fun z => Or.inr ⟨hq, z⟩), fun z => z.elim (fun z => Or.inl z) (fun z => Or.inr z.2)⟩
        · rw [if_neg (fun z => e z.2)]; exact hd x y (by omega)
