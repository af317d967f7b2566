/-! ===== the loops of the model's reach ===== -/
def uSt (M N x y : Nat) (p l q m : Nat → Int) (C g : Nat → Nat → Int) (la : Nat → Int) (σ : SG) : Prop := MRow x p l M σ ∧ MRow y q m N σ ∧ (∀ i j, i < M → j < N → (σ.2.1 20 (24 * i + j)).toInt = C i j ∧ (σ.1 19 (24 * i + j)).toInt = g i j) ∧ ∀ i, i < M → (σ.1 17 i).toInt = la i
theorem uSt.R {M N x y : Nat} {p l q m : Nat → Int} {C g : Nat → Nat → Int} {la : Nat → Int} {σ σ' : SG} (h : uSt M N x y p l q m C g la σ) (f : frR σ σ') : uSt M N x y p l q m C g la σ' := ⟨h.1.C f.C, h.2.1.C f.C, fun i j hi hj => by rw [f.2.1 _ _ (by omega), f.1 _ _ (by omega)]; exact h.2.2.1 i j hi hj, fun i hi => by rw [f.1 _ _ (by omega)]; exact h.2.2.2 i hi⟩
def uSat (p q : Nat → Int) (C g : Nat → Nat → Int) (i j : Nat) (σ : SG) : Prop := (0 ≤ p i → 0 ≤ q j → udA σ i < 2305843009213693951 → udB σ j ≤ udA σ i + C i j) ∧ (0 < g i j → udB σ j < 2305843009213693951 → udA σ i ≤ udB σ j - C i j)
def uPI (M N : Nat) (p q : Nat → Int) (C g : Nat → Nat → Int) (la u v : Nat → Int) (Φ0 : Int) (σ0 : SG) (i j : Nat) (σ : SG) (l3 : Int32) : Prop := frR σ0 σ ∧ (∃ ka kb, uRI M N p q C g la u v ka kb σ) ∧ uPhi M N σ ≤ Φ0 ∧ (¬ l3 = 0 → uPhi M N σ < Φ0) ∧ (l3 = 0 → ∀ i' j', i' < M → j' < N → (i' < i ∨ (i' = i ∧ j' < j)) → uSat p q C g i' j' σ)
theorem m_reach100 {M N x y : Nat} {p l q m : Nat → Int} {C g : Nat → Nat → Int} {la u v : Nat → Int} {Φ0 : Int} {σ0 : SG} {l1 l2 l4 : Int32} {i : Nat} {c77 : SG → Int32 → Int32 → Int32 → Option (Unit × SG)} {c86 : SG → Int32 → Int32 → Int32 → Int32 → Option (Unit × SG)} {Q : Unit → SG → Prop} (hX : uCx M N p q C g la u v) (hS0 : uSt M N x y p l q m C g la σ0) (h1 : l1.toInt = x) (h2 : l2.toInt = y) (h4 : l4.toInt = i) (hi : i < M)
    (kk : ∀ (s : SG) (l3 w : Int32), uPI M N p q C g la u v Φ0 σ0 (i + 1) 0 s l3 → w.toInt = (i + 1 : Nat) → uOk (c86 s l1 l2 l3 w) Q) :
    ∀ (d fuel j : Nat) (σ : SG) (l3 l5 : Int32), d < fuel → j + d = N → uPI M N p q C g la u v Φ0 σ0 i j σ l3 → l5.toInt = j → uOk (m_X12_reachAll_100 c77 c86 fuel σ l1 l2 l3 l4 l5) Q := by
  have k24 : ((24 : Int32)).toInt = 24 := rfl
  have k0 : ((0 : Int32)).toInt = 0 := rfl
  have kF : ((2305843009213693951 : Int64)).toInt = 2305843009213693951 := rfl
  have hM := hX.1
  have hN := hX.2.1
  intro d
  induction d with
  | zero =>
    intro fuel j σ l3 l5 hf hd hP h5
    cases fuel with
    | zero => omega
    | succ fuel =>
      obtain ⟨f1, f2, f3, f4, f5⟩ := hP
      obtain ⟨-, ⟨t1, t2, t3, t4⟩, -, -⟩ := hS0.R f1
      show uOk (m_X12_reachAll_100_s c77 c86 _ σ l1 l2 l3 l4 l5) Q
      unfold m_X12_reachAll_100_s
      rw [z_nv h2]
      refine ok_i (by omega) (ok_ite (fun _ => ok_l fun v25 e25 => kk σ l3 v25 ⟨f1, f2, f3, f4, fun z i' j' hi' hj' hh => f5 z i' j' hi' hj' (by omega)⟩ ?_) (fun q => absurd (z_le.mpr (by rw [t3, h5]; omega)) q))
      rw [e25, z_add1 (by omega), h4]; rfl
  | succ d ih =>
    intro fuel j σ l3 l5 hf hd hP h5
    cases fuel with
    | zero => omega
    | succ fuel =>
      obtain ⟨f1, ⟨ka, kb, f2⟩, f3, f4, f5⟩ := hP
      obtain ⟨⟨r1, r2, r3, r4⟩, ⟨t1, t2, t3, t4⟩, s3, s4⟩ := hS0.R f1
      have hj : j < N := by omega
      have cij := s3 i j hi hj
      have cb := hX.2.2.1 i j hi hj
      have hx : (24 * l1 + l4).toInt = (24 * x + i : Nat) := by rw [z_addv (z_mulv k24 h1 (by omega) (by omega)) h4 (by omega) (by omega)]; omega
      have hy : (24 * l2 + l5).toInt = (24 * y + j : Nat) := by rw [z_addv (z_mulv k24 h2 (by omega) (by omega)) h5 (by omega) (by omega)]; omega
      have hc : (24 * l4 + l5).toInt = (24 * i + j : Nat) := by rw [z_addv (z_mulv k24 h4 (by omega) (by omega)) h5 (by omega) (by omega)]; omega
      have hb : (24 + l5).toInt = (24 + j : Nat) := by rw [z_addv k24 h5 (by omega) (by omega)]; omega
      -- the next pair
      have m328 : ∀ (s : SG) (l3' : Int32), uPI M N p q C g la u v Φ0 σ0 i (j + 1) s l3' → uOk (m_X12_reachAll_328 c77 c86 (m_X12_reachAll_100 c77 c86 fuel) s l1 l2 l3' l4 l5) Q := fun s l3' hp => by
        unfold m_X12_reachAll_328
        exact ok_l fun v61 e61 => ih fuel (j + 1) s l3' v61 (by omega) (by omega) hp (by rw [e61, z_add1 (by omega), h5]; rfl)
      -- the way back
      have m240 : ∀ (s : SG) (l3' : Int32) (l7 : Int64), uPI M N p q C g la u v Φ0 σ0 i j s l3' → l7.toInt = C i j → (l3' = 0 → 0 ≤ p i → 0 ≤ q j → udA s i < 2305843009213693951 → udB s j ≤ udA s i + C i j) → uOk (m_X12_reachAll_240 c77 c86 (m_X12_reachAll_100 c77 c86 fuel) s l1 l2 l3' l4 l5 l7) Q := fun s l3' l7 hp e7 hfst => by
        obtain ⟨p1, ⟨ka, kb, p2⟩, p3, p4, p5⟩ := hp
        obtain ⟨-, -, s3', -⟩ := hS0.R p1
        have nn := p2.nn hX
        have bA := nn.1 i hi
        have bB := nn.2.1 j hj
        have same : (0 < g i j → udB s j < 2305843009213693951 → udA s i ≤ udB s j - C i j) → uPI M N p q C g la u v Φ0 σ0 i (j + 1) s l3' := fun hsnd => ⟨p1, ⟨ka, kb, p2⟩, p3, p4, fun z i' j' hi' hj' hh => by
          by_cases e : i' = i ∧ j' = j
          · rw [e.1, e.2]; exact ⟨hfst z, hsnd⟩
          · exact p5 z i' j' hi' hj' (by omega)⟩
        unfold m_X12_reachAll_240
        rw [z_nv hc, z_nv hb, z_nv h4]
        refine ok_i (by omega) (ok_ite (fun q1 => m328 s l3' (same (fun z => ?_))) (fun q1 => ok_i (by omega) (ok_ite (fun q2 => m328 s l3' (same (fun _ z => ?_))) (fun q2 => ok_i (by omega) (ok_i (by omega) (ok_ite (fun q3 => m328 s l3' (same (fun _ _ => ?_))) (fun q3 => ok_i (by omega) (ok_i (by omega) (ok_l fun s56 e56 => ok_i (by omega) (ok_l fun s59 e59 => m328 s59 1 ?_))))))))))
        · rw [z_le, (s3' i j hi hj).2, k0] at q1; omega
        · have q2 := j_le.mp q2
          rw [kF] at q2
          have : udB s j = (s.2.1 21 (24 + j)).toInt := rfl
          omega
        · have q3 := j_le.mp q3
          have e1 : (s.2.1 21 (24 + j) - l7).toInt = udB s j - C i j := j_sub rfl e7 (by show _ ≤ udB s j - C i j; omega) (by show udB s j - C i j < _; omega)
          rw [e1] at q3
          exact q3
        · have g0 : 0 < g i j := by rw [z_le, (s3' i j hi hj).2, k0] at q1; omega
          have lt : udB s j < 2305843009213693951 := by
            have : ¬ (2305843009213693951 : Int) ≤ udB s j := fun z => q2 (j_le.mpr (by rw [kF]; exact z))
            omega
          have e1 : (s.2.1 21 (24 + j) - l7).toInt = udB s j - C i j := j_sub rfl e7 (by show _ ≤ udB s j - C i j; omega) (by show udB s j - C i j < _; omega)
          have hr : udB s j - C i j < udA s i := by
            have : ¬ udA s i ≤ udB s j - C i j := fun z => q3 (j_le.mpr (by rw [e1]; exact z))
            omega
          obtain ⟨⟨ka', n1⟩, n2⟩ := p2.relA (s := s59) hX hi hj g0 lt hr e1 h5 (by rw [e59, e56])
          refine ⟨p1.tr ⟨fun k i' z => ?_, fun k i' z => ?_, ?_⟩, ⟨ka', kb, n1⟩, by omega, fun _ => by omega, fun z => absurd z (by decide)⟩
          · rw [e59, g_sI, if_neg (by omega), e56, g_sJ1]
          · rw [e59, g_sI2, e56, g_sJ, if_neg (by omega)]
          · rw [e59, g_sI2, e56, g_sJ3]
      -- the way there
      have m146 : ∀ s0 : Int32, (s0 = 0 ↔ ¬ (0 ≤ p i ∧ 0 ≤ q j)) → uOk (m_X12_reachAll_146 c77 c86 (m_X12_reachAll_100 c77 c86 fuel) σ l1 l2 l3 l4 l5 s0) Q := fun s0 hs0 => by
        have nn := f2.nn hX
        have bA := nn.1 i hi
        have bB := nn.2.1 j hj
        unfold m_X12_reachAll_146
        rw [z_nv hc, z_nv h4, z_nv hb]
        refine ok_i (by omega) (ok_l fun v32 e32 => ?_)
        have c32 : v32.toInt = C i j := by rw [e32]; exact cij.1
        have base : uPI M N p q C g la u v Φ0 σ0 i j σ l3 := ⟨f1, ⟨ka, kb, f2⟩, f3, f4, f5⟩
        refine ok_ite (fun qz => m240 σ l3 v32 base c32 (fun _ a b => absurd ⟨a, b⟩ (hs0.mp qz))) (fun qz => ok_i (by omega) (ok_ite (fun q2 => m240 σ l3 v32 base c32 (fun _ _ _ z => ?_)) (fun q2 => ok_i (by omega) (ok_i (by omega) (ok_ite (fun q3 => m240 σ l3 v32 base c32 (fun _ _ _ _ => ?_)) (fun q3 => ok_i (by omega) (ok_i (by omega) (ok_l fun s42 e42 => ok_i (by omega) (ok_l fun s45 e45 => m240 s45 1 v32 ?_ c32 (fun z => absurd z (by decide)))))))))))
        · have q2 := j_le.mp q2
          rw [kF] at q2
          have : udA σ i = (σ.2.1 21 i).toInt := rfl
          omega
        · have q3 := j_le.mp q3
          have e1 : (σ.2.1 21 i + v32).toInt = udA σ i + C i j := j_add rfl c32 (by show _ ≤ udA σ i + C i j; omega) (by show udA σ i + C i j < _; omega)
          rw [e1] at q3
          exact q3
        · have hn : 0 ≤ p i ∧ 0 ≤ q j := Classical.not_not.mp (fun z => qz (hs0.mpr z))
          have lt : udA σ i < 2305843009213693951 := by
            have : ¬ (2305843009213693951 : Int) ≤ udA σ i := fun z => q2 (j_le.mpr (by rw [kF]; exact z))
            omega
          have e1 : (σ.2.1 21 i + v32).toInt = udA σ i + C i j := j_add rfl c32 (by show _ ≤ udA σ i + C i j; omega) (by show udA σ i + C i j < _; omega)
          have hr : udA σ i + C i j < udB σ j := by
            have : ¬ udB σ j ≤ udA σ i + C i j := fun z => q3 (j_le.mpr (by rw [e1]; exact z))
            omega
          obtain ⟨⟨kb', n1⟩, n2⟩ := f2.relB (s := s45) hX hi hj hn.1 hn.2 lt hr e1 h4 (by rw [e45, e42])
          refine ⟨f1.tr ⟨fun k i' z => ?_, fun k i' z => ?_, ?_⟩, ⟨ka, kb', n1⟩, by omega, fun _ => by omega, fun z => absurd z (by decide)⟩
          · rw [e45, g_sI, if_neg (by omega), e42, g_sJ1]
          · rw [e45, g_sI2, e42, g_sJ, if_neg (by omega)]
          · rw [e45, g_sI2, e42, g_sJ3]
      show uOk (m_X12_reachAll_100_s c77 c86 _ σ l1 l2 l3 l4 l5) Q
      unfold m_X12_reachAll_100_s m_X12_reachAll_145
      rw [z_nv h2, z_nv hx, z_nv hy]
      refine ok_i (by omega) (ok_ite (fun q => absurd (z_le.mp q) (by rw [t3, h5]; omega)) (fun _ => ok_i (by omega) (ok_ite (fun q1 => m146 0 ⟨fun _ z => ?_, fun _ => rfl⟩) (fun q1 => ok_i (by omega) (ok_ite (fun q2 => m146 0 ⟨fun _ z => ?_, fun _ => rfl⟩) (fun q2 => m146 1 ⟨fun z => absurd z (by decide), fun z => absurd ⟨?_, ?_⟩ z⟩))))))
      · rw [z_lt, (r4 i hi).1, k0] at q1; omega
      · rw [z_lt, (t4 j hj).1, k0] at q2; omega
      · rw [z_lt, (r4 i hi).1, k0] at q1; omega
      · rw [z_lt, (t4 j hj).1, k0] at q2; omega
theorem m_reach86 {M N x y : Nat} {p l q m : Nat → Int} {C g : Nat → Nat → Int} {la u v : Nat → Int} {Φ0 : Int} {σ0 : SG} {l1 l2 : Int32} {c77 : SG → Int32 → Int32 → Int32 → Option (Unit × SG)} {Q : Unit → SG → Prop} (hX : uCx M N p q C g la u v) (hS0 : uSt M N x y p l q m C g la σ0) (h1 : l1.toInt = x) (h2 : l2.toInt = y)
    (kk : ∀ (s : SG) (l3 : Int32), uPI M N p q C g la u v Φ0 σ0 M 0 s l3 → uOk (c77 s l1 l2 l3) Q) :
    ∀ (d fuel i : Nat) (σ : SG) (l3 l4 : Int32), d < fuel → i + d = M → uPI M N p q C g la u v Φ0 σ0 i 0 σ l3 → l4.toInt = i → uOk (m_X12_reachAll_86 c77 fuel σ l1 l2 l3 l4) Q := by
  have hM := hX.1
  have hN := hX.2.1
  intro d
  induction d with
  | zero =>
    intro fuel i σ l3 l4 hf hd hP h4
    cases fuel with
    | zero => omega
    | succ fuel =>
      obtain ⟨⟨r1, r2, r3, r4⟩, -⟩ := hS0.R hP.1
      show uOk (m_X12_reachAll_86_s c77 _ σ l1 l2 l3 l4) Q
      unfold m_X12_reachAll_86_s
      rw [z_nv h1]
      refine ok_i (by omega) (ok_ite (fun _ => kk σ l3 (by rw [show i = M by omega] at hP; exact hP)) (fun q => absurd (z_le.mpr (by rw [r3, h4]; omega)) q))
  | succ d ih =>
    intro fuel i σ l3 l4 hf hd hP h4
    cases fuel with
    | zero => omega
    | succ fuel =>
      obtain ⟨⟨r1, r2, r3, r4⟩, -⟩ := hS0.R hP.1
      show uOk (m_X12_reachAll_86_s c77 _ σ l1 l2 l3 l4) Q
      unfold m_X12_reachAll_86_s
      rw [z_nv h1]
      refine ok_i (by omega) (ok_ite (fun q => absurd (z_le.mp q) (by rw [r3, h4]; omega)) (fun _ => ?_))
      exact m_reach100 hX hS0 h1 h2 h4 (by omega) (fun s l3' w hp hw => ih fuel (i + 1) s l3' w (by omega) (by omega) hp hw) N FV 0 σ l3 0 (FV_big (by omega)) (by omega) hP rfl
theorem m_reach77 {M N x y : Nat} {p l q m : Nat → Int} {C g : Nat → Nat → Int} {la u v : Nat → Int} {σ0 : SG} {l1 l2 : Int32} (hX : uCx M N p q C g la u v) (hS0 : uSt M N x y p l q m C g la σ0) (h1 : l1.toInt = x) (h2 : l2.toInt = y) :
    ∀ (n fuel : Nat) (σ : SG) (l3 : Int32), n < fuel → frR σ0 σ → (∃ ka kb, uRI M N p q C g la u v ka kb σ) → uPhi M N σ < n → (l3 = 0 → ∀ i' j', i' < M → j' < N → uSat p q C g i' j' σ) → uOk (m_X12_reachAll_77 fuel σ l1 l2 l3) (fun _ s => frR σ0 s ∧ (∃ ka kb, uRI M N p q C g la u v ka kb s) ∧ ∀ i' j', i' < M → j' < N → uSat p q C g i' j' s) := by
  have hM := hX.1
  intro n
  induction n with
  | zero => intro fuel σ l3 hf hF hR hn; obtain ⟨ka, kb, hR⟩ := hR; have := (hR.nn hX).2.2.1; omega
  | succ n ih =>
    intro fuel σ l3 hf hF hR hn hl
    cases fuel with
    | zero => omega
    | succ fuel =>
      show uOk (m_X12_reachAll_77_s _ σ l1 l2 l3) _
      unfold m_X12_reachAll_77_s
      refine ok_ite (fun q => ok_r ⟨hF, hR, hl q⟩) (fun q => ?_)
      -- one pass; if nothing falls, the next round ends
      refine m_reach86 (Φ0 := uPhi M N σ) hX (hS0.R hF) h1 h2 (fun s l3' hp => ?_) M FV 0 σ 0 0 (FV_big (by omega)) (by omega) ⟨frR.rf, hR, Int.le_refl _, fun z => absurd rfl z, fun _ i' j' hi' hj' hh => by omega⟩ rfl
      obtain ⟨p1, p2, p3, p4, p5⟩ := hp
      by_cases z : l3' = 0
      · cases fuel with
        | zero => 
          exfalso
          obtain ⟨ka, kb, hR⟩ := hR; have := (hR.nn hX).2.2.1; omega
        | succ fuel =>
          show uOk (m_X12_reachAll_77_s _ s l1 l2 l3') _
          unfold m_X12_reachAll_77_s
          rw [if_pos z]
          exact ok_r ⟨hF.tr p1, p2, fun i' j' hi' hj' => p5 z i' j' hi' hj' (Or.inl hi')⟩
      · exact ih fuel s l3' (by omega) (hF.tr p1) p2 (by have := p4 z; omega) (fun y => absurd y z)
