/-! ===== the model sends units on: the ways walked ===== -/
theorem m_f73 {N y : Nat} {q m lb : Nat → Int} {σ : SG} {l1 l2 l7 : Int32} {l5 : Int64} {c56 : SG → Int32 → Int32 → Int64 → Int32 → Option (Int64 × SG)} {Q : Int64 → SG → Prop} (hT : MRow y q m N σ) (h2 : l2.toInt = y) (h18 : ∀ j, j < N → (σ.1 18 j).toInt = lb j) (hex : ∃ j, j < N ∧ 0 < lb j)
    (kk : ∀ (cc : SG → Int32 → Int32 → Int64 → Int32 → Int32 → Int32 → Option (Int64 × SG)) (last : Nat) (l8 l9 : Int32), last < N → 0 < lb last → (∀ j, j < N → 0 < lb j → udB σ last ≤ udB σ j) → l8.toInt = last → l9.toInt = N → uOk (m_X12_freightOf_73_s c56 cc σ l1 l2 l5 l7 l8 l9) Q) :
    ∀ (d fuel k : Nat) (l8 l9 : Int32), d < fuel → k + d = N → l9.toInt = k → ((l8 = -1 ∧ ∀ j, j < k → ¬ 0 < lb j) ∨ ∃ last : Nat, last < k ∧ l8.toInt = last ∧ 0 < lb last ∧ ∀ j, j < k → 0 < lb j → udB σ last ≤ udB σ j) → uOk (m_X12_freightOf_73 c56 fuel σ l1 l2 l5 l7 l8 l9) Q := by
  have k24 : ((24 : Int32)).toInt = 24 := rfl
  have k0 : ((0 : Int32)).toInt = 0 := rfl
  obtain ⟨t1, t2, t3, t4⟩ := hT
  intro d
  induction d with
  | zero =>
    intro fuel k l8 l9 hf hd h9 hI
    cases fuel with
    | zero => omega
    | succ fuel =>
      show uOk (m_X12_freightOf_73_s c56 _ σ l1 l2 l5 l7 l8 l9) Q
      have hk : k = N := by omega
      rw [hk] at hI h9
      rcases hI with ⟨-, z⟩ | ⟨last, a, b, c, e⟩
      · obtain ⟨j, hj, y⟩ := hex
        exact absurd y (z j hj)
      · exact kk _ last l8 l9 a c e b h9
  | succ d ih =>
    intro fuel k l8 l9 hf hd h9 hI
    cases fuel with
    | zero => omega
    | succ fuel =>
      have hk : k < N := by omega
      have h9b : (24 + l9).toInt = (24 + k : Nat) := by rw [z_addv k24 h9 (by omega) (by omega)]; omega
      have m131 : ∀ s0 : Int32, ((s0 = -1 ∧ ∀ j, j < k + 1 → ¬ 0 < lb j) ∨ ∃ last : Nat, last < k + 1 ∧ s0.toInt = last ∧ 0 < lb last ∧ ∀ j, j < k + 1 → 0 < lb j → udB σ last ≤ udB σ j) → uOk (m_X12_freightOf_131 c56 (m_X12_freightOf_73 c56 fuel) σ l1 l2 l5 l7 l9 s0) Q := fun s0 hs0 => by
        unfold m_X12_freightOf_131
        exact ok_l fun v89 e89 => ih fuel (k + 1) s0 v89 (by omega) (by omega) (by rw [e89, z_add1 (by omega), h9]; rfl) hs0
      show uOk (m_X12_freightOf_73_s c56 _ σ l1 l2 l5 l7 l8 l9) Q
      unfold m_X12_freightOf_73_s m_X12_freightOf_129 m_X12_freightOf_124
      rw [z_nv h2, z_nv h9, z_nv h9b]
      refine ok_i (by omega) (ok_ite (fun q => absurd (z_le.mp q) (by rw [t3, h9]; omega)) (fun _ => ok_i (by omega) (ok_ite (fun q1 => m131 l8 ?_) (fun q1 => ok_ite (fun q2 => m131 l9 ?_) (fun q2 => ?_)))))
      · rw [z_le, h18 k hk, k0] at q1
        rcases hI with ⟨a, b⟩ | ⟨last, a, b, c, e⟩
        · refine Or.inl ⟨a, fun j hj => ?_⟩
          by_cases z : j = k
          · rw [z]; omega
          · exact b j (by omega)
        · refine Or.inr ⟨last, by omega, b, c, fun j hj y => ?_⟩
          by_cases z : j = k
          · rw [z] at y; omega
          · exact e j (by omega) y
      · rw [z_le, h18 k hk, k0] at q1
        rcases hI with ⟨a, b⟩ | ⟨last, a, b, c, e⟩
        · refine Or.inr ⟨k, by omega, h9, by omega, fun j hj y => ?_⟩
          by_cases z : j = k
          · rw [z]; exact Int.le_refl _
          · exact absurd y (b j (by omega))
        · rw [q2] at b
          have b : (-1 : Int) = last := b
          omega
      · rw [z_le, h18 k hk, k0] at q1
        rcases hI with ⟨a, b⟩ | ⟨last, a, b, c, e⟩
        · exact absurd a q2
        · have h8b : (24 + l8).toInt = (24 + last : Nat) := by rw [z_addv k24 b (by omega) (by omega)]; omega
          rw [z_nv h8b]
          refine ok_i (by omega) (ok_i (by omega) (ok_ite (fun q3 => m131 l8 ?_) (fun q3 => m131 l9 ?_)))
          · have q3 : udB σ last ≤ udB σ k := j_le.mp q3
            refine Or.inr ⟨last, by omega, b, c, fun j hj y => ?_⟩
            by_cases z : j = k
            · rw [z]; exact q3
            · exact e j (by omega) y
          · have q3 : ¬ udB σ last ≤ udB σ k := fun z => q3 (j_le.mpr z)
            refine Or.inr ⟨k, by omega, h9, by omega, fun j hj y => ?_⟩
            by_cases z : j = k
            · rw [z]; exact Int.le_refl _
            · have := e j (by omega) y
              omega
/-- the givers that the way goes through -/
def uPS (M N : Nat) (g : Nat → Nat → Int) (fA fB : Nat → Int) (w : Int) (S : Nat → Prop) (i : Nat) : Prop := ∀ k, S k → k < M ∧ ∃ j : Nat, j < N ∧ fA k = j ∧ w ≤ g k j ∧ ∃ i' : Nat, i' < M ∧ fB j = i' ∧ (S i' ∨ i' = i)
theorem m_f169 {M N i0 : Nat} {p q : Nat → Int} {C g : Nat → Nat → Int} {la u v dA dB ka kb fA fB : Nat → Int} {σ : SG} {l1 l2 l7 l8 : Int32} {l5 : Int64} {W : Int} {c56 : SG → Int32 → Int32 → Int64 → Int32 → Option (Int64 × SG)} {Q : Int64 → SG → Prop} (hX : uCx M N p q C g la u v) (hD : uDs M N p q C g la u v dA dB ka kb fA fB)
    (hv : ∀ i, i < M → (σ.1 22 i).toInt = fA i) (hv' : ∀ j, j < N → (σ.1 22 (24 + j)).toInt = fB j) (h19 : ∀ i j, i < M → j < N → (σ.1 19 (24 * i + j)).toInt = g i j)
    (kk : ∀ (cc : SG → Int32 → Int32 → Int64 → Int32 → Int32 → Int32 → Int32 → Option (Int64 × SG)) (i : Nat) (S : Nat → Prop) (w : Int) (l9 l11 : Int32), i < M → 0 ≤ p i → fA i = -1 → l11.toInt = i → l9.toInt = w → 0 < w → w ≤ W → uPS M N g fA fB w S i → (S i0 ∨ i0 = i) → uOk (m_X12_freightOf_169_s c56 cc σ l1 l2 l5 l7 l8 l9 l11) Q) :
    ∀ (n fuel i : Nat) (S : Nat → Prop) (w : Int) (l9 l11 : Int32), n < fuel → ka i + 110680464442257309648 < n → i < M → 0 ≤ p i → l11.toInt = i → l9.toInt = w → 0 < w → w ≤ W → uPS M N g fA fB w S i → (S i0 ∨ i0 = i) → uOk (m_X12_freightOf_169 c56 fuel σ l1 l2 l5 l7 l8 l9 l11) Q := by
  have k24 : ((24 : Int32)).toInt = 24 := rfl
  obtain ⟨x1, x2, x3, x4, x5, x6, x7, x8⟩ := hX
  obtain ⟨d1, d2, d3, d4, d5, d6, d7, d8⟩ := hD
  intro n
  induction n with
  | zero => intro fuel i S w l9 l11 hf hn hi hp; have := (d8 i hi hp).1; omega
  | succ n ih =>
    intro fuel i S w l9 l11 hf hn hi hp h11 h9 w0 w1 hS h0
    cases fuel with
    | zero => omega
    | succ fuel =>
      show uOk (m_X12_freightOf_169_s c56 _ σ l1 l2 l5 l7 l8 l9 l11) Q
      rcases d6 i hi hp with ⟨z, -⟩ | ⟨j, hj, f1, f2, f3, f4⟩
      · exact kk _ i S w l9 l11 hi hp z h11 h9 w0 w1 hS h0
      · have hq := (x7 i j hi hj f2).2.2
        obtain ⟨i', hi', e1, e2, e3, e4⟩ := d7 j hj hq
        unfold m_X12_freightOf_169_s
        rw [z_nv h11]
        refine ok_i (by omega) (ok_ite (fun q => ?_) (fun _ => ok_i (by omega) (ok_l fun v65 e65 => ?_)))
        · have := hv i hi
          rw [q] at this
          have : (-1 : Int) = fA i := this
          omega
        · have h65 : v65.toInt = j := by rw [e65, hv i hi, f1]
          have hx : (24 * l11 + v65).toInt = (24 * i + j : Nat) := by rw [z_addv (z_mulv k24 h11 (by omega) (by omega)) h65 (by omega) (by omega)]; omega
          have hb : (24 + v65).toInt = (24 + j : Nat) := by rw [z_addv k24 h65 (by omega) (by omega)]; omega
          rw [z_nv hx, z_nv hb]
          have g1 := h19 i j hi hj
          refine ok_i (by omega) (ok_l fun v68 e68 => ok_i (by omega) (ok_l fun v71 e71 => ?_))
          have h68 : v68.toInt = if g i j < w then g i j else w := by rw [e68]; exact z_minv g1 h9
          have w2 : 0 < (if g i j < w then g i j else w) ∧ (if g i j < w then g i j else w) ≤ w ∧ (if g i j < w then g i j else w) ≤ g i j := by split <;> omega
          refine ih fuel i' (fun k => S k ∨ k = i) _ v68 v71 (by omega) (by omega) hi' e2 (by rw [e71, hv' j hj, e1]) h68 w2.1 (by omega) (fun k hk => ?_) ?_
          · rcases hk with hk | hk
            · obtain ⟨a, j1, b1, b2, b3, i1, b4, b5, b6⟩ := hS k hk
              refine ⟨a, j1, b1, b2, by omega, i1, b4, b5, Or.inl ?_⟩
              rcases b6 with b6 | b6
              · exact Or.inl b6
              · exact Or.inr b6
            · rw [hk]
              exact ⟨hi, j, hj, f1, by omega, i', hi', e1, Or.inr rfl⟩
          · rcases h0 with h0 | h0
            · exact Or.inl (Or.inl h0)
            · exact Or.inl (Or.inr h0)
theorem m_f322 {M N src last : Nat} {p q : Nat → Int} {C g : Nat → Nat → Int} {la u v dA dB ka kb fA fB : Nat → Int} {σ : SG} {l1 l2 l7 l9 : Int32} {l5 : Int64} {S : Nat → Prop} {w ρ : Int} {c56 : SG → Int32 → Int32 → Int64 → Int32 → Option (Int64 × SG)} {Q : Int64 → SG → Prop} (hX : uCx M N p q C g la u v) (hD : uDs M N p q C g la u v dA dB ka kb fA fB)
    (hv : ∀ i, i < M → (σ.1 22 i).toInt = fA i) (hv' : ∀ j, j < N → (σ.1 22 (24 + j)).toInt = fB j) (hr : ∀ i, i < M → uS (g i) N ≤ 64) (hS : uPS M N g fA fB w S src) (hsrc : fA src = -1) (h9 : l9.toInt = w) (w0 : 0 < w) (w1 : w ≤ 1536)
    (kk : ∀ (s : SG) (gc : Nat → Nat → Int), fr1 19 20 σ s → (∀ i j, i < M → j < N → (s.1 19 (24 * i + j)).toInt = gc i j) → uAg M N g (uTi p q C u v dA dB ρ) ka w last src gc → uOk (c56 s l1 l2 l5 l7) Q) :
    ∀ (n fuel i : Nat) (s : SG) (gc : Nat → Nat → Int) (l11 : Int32), n < fuel → ka i + 110680464442257309648 < n → i < M → 0 ≤ p i → l11.toInt = i → (S i ∨ i = src) → dA i - u i ≤ ρ → fr1 19 20 σ s → (∀ i j, i < M → j < N → (s.1 19 (24 * i + j)).toInt = gc i j) → uAg M N g (uTi p q C u v dA dB ρ) ka w last i gc → uOk (m_X12_freightOf_322 c56 fuel s l1 l2 l5 l7 l9 l11) Q := by
  have k24 : ((24 : Int32)).toInt = 24 := rfl
  obtain ⟨x1, x2, x3, x4, x5, x6, x7, x8⟩ := hX
  obtain ⟨d1, d2, d3, d4, d5, d6, d7, d8⟩ := hD
  intro n
  induction n with
  | zero => intro fuel i s gc l11 hf hn hi hp; have := (d8 i hi hp).1; omega
  | succ n ih =>
    intro fuel i s gc l11 hf hn hi hp h11 hSi hρ hF h19 hA
    cases fuel with
    | zero => omega
    | succ fuel =>
      show uOk (m_X12_freightOf_322_s c56 _ s l1 l2 l5 l7 l9 l11) Q
      unfold m_X12_freightOf_322_s
      rw [z_nv h11]
      have hvi : (s.1 22 i).toInt = fA i := by rw [hF.1 _ _ (by omega)]; exact hv i hi
      refine ok_i (by omega) (ok_ite (fun z => ?_) (fun z => ok_i (by omega) (ok_l fun v76 e76 => ?_)))
      · rw [z] at hvi
        have hvi : (-1 : Int) = fA i := hvi
        rcases hSi with y | y
        · obtain ⟨-, j, -, b, -⟩ := hS i y
          omega
        · rw [y] at hA
          exact kk s gc hF h19 hA
      · have hne : fA i ≠ -1 := fun y => z (z_eq.mpr (by rw [hvi, y]; rfl))
        rcases hSi with y | y
        · obtain ⟨-, j, hj, f1, f2, i', hi', f3, f4⟩ := hS i y
          have g0 : 0 < g i j := by omega
          have tq := x7 i j hi hj g0
          have hq := tq.2.2
          obtain ⟨i2, hi2, e1, e2, e3, e4⟩ := d7 j hj hq
          have ei : i2 = i' := by omega
          rw [ei] at e1 e2 e3 e4
          have kb1 : kb j < ka i ∧ dA i = dB j - C i j := by
            rcases d6 i hi hp with ⟨y, -⟩ | ⟨j2, a1, a2, a3, a4, a5⟩
            · exact absurd y hne
            · have ej : j2 = j := by omega
              rw [ej] at a4 a5
              exact ⟨a5, a4⟩
          have c1 := x6 i' j hi' hj e2 hq
          have h76 : v76.toInt = j := by rw [e76, hvi, f1]
          have hx : (24 * l11 + v76).toInt = (24 * i + j : Nat) := by rw [z_addv (z_mulv k24 h11 (by omega) (by omega)) h76 (by omega) (by omega)]; omega
          have hb : (24 + v76).toInt = (24 + j : Nat) := by rw [z_addv k24 h76 (by omega) (by omega)]; omega
          rw [z_nv hx, z_nv hb]
          refine ok_i (by omega) (ok_i (by omega) (ok_l fun s80 e80 => ok_i (by omega) (ok_l fun v83 e83 => ?_)))
          have h83 : v83.toInt = i' := by rw [e83, e80, g_sI, if_neg (by omega), hF.1 _ _ (by omega), hv' j hj, e1]
          have hy : (24 * v83 + v76).toInt = (24 * i' + j : Nat) := by rw [z_addv (z_mulv k24 h83 (by omega) (by omega)) h76 (by omega) (by omega)]; omega
          rw [z_nv hy]
          have ne : i' ≠ i := fun e => by rw [e] at e4; omega
          have hA' := hA
          obtain ⟨A1, A2, A3, A4, A5⟩ := hA'
          have bnd : ∀ k b, k < M → b < N → 0 ≤ gc k b ∧ gc k b ≤ 1600 := fun k b hk hb' => by
            have a := uS_ge N b (fun b hb => A3 k b hk hb) hb'
            have c := hr k hk
            have e := A1 k hk
            have f := A3 k b hk hb'
            split at e <;> omega
          have lo := A4 i j hi hj (Int.le_refl _)
          have b1 := bnd i j hi hj
          have b2 := bnd i' j hi' hj
          refine ok_i (by omega) (ok_i (by omega) (ok_l fun s87 e87 => ih fuel i' s87 (uG (uG gc i j (-w)) i' j w) v83 (by omega) (by omega) hi' e2 h83 f4 (by omega) ?_ (fun k b hk hb' => ?_) (uAg.step hA (by omega) hi hj hi' (by omega) f2 ⟨e2, hq, e3, by omega, by omega⟩)))
          · rw [e87, e80]
            exact (hF.sI (by omega)).sI (by omega)
          · have o := h19 k b hk hb'
            rw [e87, g_sI]
            unfold uG
            by_cases e : k = i' ∧ b = j
            · rw [if_pos ⟨rfl, by rw [e.1, e.2]⟩, if_pos e, if_neg (fun y => ne (e.1.symm.trans y.1)), e.1, e.2]
              have o2 : (s80.1 19 (24 * i' + j)).toInt = gc i' j := by rw [e80, g_sI, if_neg (by omega)]; exact h19 i' j hi' hj
              exact z_addv o2 h9 (by omega) (by omega)
            · rw [if_neg (by omega), if_neg e, e80, g_sI]
              by_cases y : k = i ∧ b = j
              · rw [if_pos ⟨rfl, by rw [y.1, y.2]⟩, if_pos y, y.1, y.2]
                rw [z_subv (h19 i j hi hj) h9 (by omega) (by omega)]; omega
              · rw [if_neg (by omega), if_neg y]; exact o
        · rw [y] at hne
          exact absurd hsrc hne
