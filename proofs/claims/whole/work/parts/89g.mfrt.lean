/-! ===== the model's reach from its beginning ===== -/
def uI0 (M : Nat) (la : Nat → Int) (k : Nat) (σ : SG) : Prop := ∀ i, i < k → udA σ i = (if i < M ∧ 0 < la i then 0 else 2305843009213693951) ∧ udB σ i = 2305843009213693951 ∧ ufA σ i = -1 ∧ ufB σ i = -1
theorem uS_bd {f : Nat → Int} {b : Int} : ∀ n, (∀ k, k < n → f k ≤ b) → uS f n ≤ b * n
  | 0, _ => by show (0 : Int) ≤ b * 0; omega
  | n + 1, h => by
    have a := uS_bd n (fun k hk => h k (by omega))
    have c := h n (by omega)
    show uS f n + f n ≤ _
    have e : b * ((n + 1 : Nat) : Int) = b * n + b := by rw [Int.natCast_add, Int.mul_add]; simp
    rw [e]; omega
theorem uI0.ri {M N : Nat} {p q : Nat → Int} {C g : Nat → Nat → Int} {la u v : Nat → Int} {σ : SG} (hX : uCx M N p q C g la u v) (h : uI0 M la 24 σ) : (∃ ka kb, uRI M N p q C g la u v ka kb σ) ∧ uPhi M N σ ≤ 110680464442257309648 := by
  obtain ⟨x1, x2, x3, x4, x5, x6, x7, x8⟩ := hX
  have s1 := uS_bd (f := udA σ) (b := 2305843009213693951) M (fun k hk => by have := (h k (by omega)).1; split at this <;> omega)
  have s2 := uS_bd (f := udB σ) (b := 2305843009213693951) N (fun k hk => by have := (h k (by omega)).2.1; omega)
  have ph : uPhi M N σ ≤ 110680464442257309648 := by unfold uPhi; omega
  refine ⟨⟨fun _ => -uPhi M N σ, fun _ => 0, fun i hi => ?_, fun j hj => Or.inl (h j (by omega)).2.1, fun i hi z => ?_, fun i hi => Or.inl ⟨(h i (by omega)).2.2.1, ?_⟩, fun j hj => Or.inl ⟨(h j (by omega)).2.2.2, (h j (by omega)).2.1⟩⟩, ph⟩
  · have e := (h i (by omega)).1
    by_cases z : i < M ∧ 0 < la i
    · rw [if_pos z] at e
      have y := x8 i hi z.2
      refine Or.inr ⟨y.2, by omega, by omega, ?_, ?_⟩
      · rw [e, y.1]
        show (0 - 0 : Int) * 110680464442257309649 - 110680464442257309648 ≤ -uPhi M N σ
        omega
      · rw [e, y.1]
        show -uPhi M N σ ≤ (0 - 0 : Int) * 110680464442257309649 - uPhi M N σ
        omega
    · rw [if_neg z] at e
      exact Or.inl e
  · have e := (h i (by omega)).1
    rw [if_pos ⟨hi, z⟩] at e
    exact e
  · have e := (h i (by omega)).1
    by_cases z : i < M ∧ 0 < la i
    · rw [if_pos z] at e
      exact Or.inr ⟨e, z.2⟩
    · rw [if_neg z] at e
      exact Or.inl e
theorem m_reach2 {M N x y : Nat} {p l q m : Nat → Int} {C g : Nat → Nat → Int} {la u v : Nat → Int} {σ0 : SG} {l1 l2 : Int32} (hX : uCx M N p q C g la u v) (hS0 : uSt M N x y p l q m C g la σ0) (h1 : l1.toInt = x) (h2 : l2.toInt = y) :
    ∀ (d fuel k : Nat) (σ : SG) (l3 : Int32), d < fuel → k + d = 24 → frR σ0 σ → uI0 M la k σ → l3.toInt = k → uOk (m_X12_reachAll_2 fuel σ l1 l2 l3) (fun _ s => frR σ0 s ∧ (∃ ka kb, uRI M N p q C g la u v ka kb s) ∧ ∀ i' j', i' < M → j' < N → uSat p q C g i' j' s) := by
  have k24 : ((24 : Int32)).toInt = 24 := rfl
  have k0 : ((0 : Int32)).toInt = 0 := rfl
  intro d
  induction d with
  | zero =>
    intro fuel k σ l3 hf hd hF hI h3
    cases fuel with
    | zero => omega
    | succ fuel =>
      show uOk (m_X12_reachAll_2_s _ σ l1 l2 l3) _
      unfold m_X12_reachAll_2_s
      refine ok_ite (fun _ => ?_) (fun q => absurd (z_le.mpr (by rw [k24, h3]; omega)) q)
      have hk : k = 24 := by omega
      rw [hk] at hI
      obtain ⟨hR, hP⟩ := hI.ri (N := N) (p := p) (q := q) (C := C) (g := g) (u := u) (v := v) hX
      exact m_reach77 hX hS0 h1 h2 110680464442257309649 FV σ 1 (by decide) hF hR (by omega) (fun z => absurd z (by decide))
  | succ d ih =>
    intro fuel k σ l3 hf hd hF hI h3
    cases fuel with
    | zero => omega
    | succ fuel =>
      obtain ⟨⟨r1, r2, r3, r4⟩, -, -, s4⟩ := hS0.R hF
      have hb : (24 + l3).toInt = (24 + k : Nat) := by rw [z_addv k24 h3 (by omega) (by omega)]; omega
      have m39 : ∀ s0 : Int64, s0.toInt = (if k < M ∧ 0 < la k then 0 else 2305843009213693951) → uOk (m_X12_reachAll_39 (m_X12_reachAll_2 fuel) σ l1 l2 l3 s0 l3) (fun _ s => frR σ0 s ∧ (∃ ka kb, uRI M N p q C g la u v ka kb s) ∧ ∀ i' j', i' < M → j' < N → uSat p q C g i' j' s) := fun s0 e0 => by
        unfold m_X12_reachAll_39
        rw [z_nv h3, z_nv hb]
        refine ok_i (by omega) (ok_l fun s8 e8 => ok_i (by omega) (ok_l fun s11 e11 => ok_i (by omega) (ok_l fun s14 e14 => ok_i (by omega) (ok_l fun s17 e17 => ok_l fun v19 e19 => ih fuel (k + 1) s17 v19 (by omega) (by omega) (hF.tr ⟨fun k' i' z => ?_, fun k' i' z => ?_, ?_⟩) (fun i hi => ⟨?_, ?_, ?_, ?_⟩) ?_))))
        · rw [e17, g_sI, if_neg (by omega), e14, g_sI, if_neg (by omega), e11, g_sJ1, e8, g_sJ1]
        · rw [e17, g_sI2, e14, g_sI2, e11, g_sJ, if_neg (by omega), e8, g_sJ, if_neg (by omega)]
        · rw [e17, g_sI2, e14, g_sI2, e11, g_sJ3, e8, g_sJ3]
        · unfold udA
          rw [e17, g_sI2, e14, g_sI2, e11, g_sJ, if_neg (by omega), e8, g_sJ]
          by_cases e : i = k
          · rw [if_pos ⟨rfl, e⟩, e]; exact e0
          · rw [if_neg (fun z => e z.2)]; exact (hI i (by omega)).1
        · unfold udB
          rw [e17, g_sI2, e14, g_sI2, e11, g_sJ]
          by_cases e : i = k
          · rw [if_pos ⟨rfl, by omega⟩]; rfl
          · rw [if_neg (by omega), e8, g_sJ, if_neg (by omega)]; exact (hI i (by omega)).2.1
        · unfold ufA
          rw [e17, g_sI, if_neg (by omega), e14, g_sI]
          by_cases e : i = k
          · rw [if_pos ⟨rfl, e⟩]; rfl
          · rw [if_neg (fun z => e z.2), e11, g_sJ1, e8, g_sJ1]; exact (hI i (by omega)).2.2.1
        · unfold ufB
          rw [e17, g_sI]
          by_cases e : i = k
          · rw [if_pos ⟨rfl, by omega⟩]; rfl
          · rw [if_neg (by omega), e14, g_sI, if_neg (by omega), e11, g_sJ1, e8, g_sJ1]; exact (hI i (by omega)).2.2.2
        · rw [e19, z_add1 (by omega), h3]; rfl
      show uOk (m_X12_reachAll_2_s _ σ l1 l2 l3) _
      unfold m_X12_reachAll_2_s m_X12_reachAll_36
      rw [z_nv h1, z_nv h3]
      refine ok_ite (fun q => absurd (z_le.mp q) (by rw [k24, h3]; omega)) (fun _ => ok_i (by omega) (ok_ite (fun q => m39 _ ?_) (fun q1 => ok_i (by omega) (ok_ite (fun q => m39 _ ?_) (fun q => m39 0 ?_)))))
      · rw [z_le, r3, h3] at q
        rw [if_neg (by omega)]; rfl
      · rw [z_le, r3, h3] at q1
        rw [z_le, s4 k (by omega), k0] at q
        rw [if_neg (by omega)]; rfl
      · rw [z_le, r3, h3] at q1
        rw [z_le, s4 k (by omega), k0] at q
        rw [if_pos ⟨by omega, by omega⟩]; rfl
theorem m_reachAll {M N x y : Nat} {p l q m : Nat → Int} {C g : Nat → Nat → Int} {la u v : Nat → Int} {σ : SG} {l1 l2 : Int32} (hX : uCx M N p q C g la u v) (hS0 : uSt M N x y p l q m C g la σ) (h1 : l1.toInt = x) (h2 : l2.toInt = y) : uOk (m_X12_reachAll σ l1 l2) (fun _ s => frR σ s ∧ (∃ ka kb, uRI M N p q C g la u v ka kb s) ∧ ∀ i' j', i' < M → j' < N → uSat p q C g i' j' s) :=
  m_reach2 hX hS0 h1 h2 24 FV 0 σ 0 (FV_big (by omega)) (by omega) frR.rf (fun i hi => by omega) rfl
/-! ===== what the reach tells: nearest ways, and where they come from ===== -/
def uDs (M N : Nat) (p q : Nat → Int) (C g : Nat → Nat → Int) (la u v dA dB ka kb : Nat → Int) (fA fB : Nat → Int) : Prop :=
  (∀ i, i < M → 0 ≤ p i → u i ≤ dA i ∧ dA i ≤ 2000000) ∧ (∀ j, j < N → 0 ≤ q j → v j ≤ dB j ∧ dB j ≤ 2000000) ∧ (∀ i j, i < M → j < N → 0 ≤ p i → 0 ≤ q j → dB j ≤ dA i + C i j) ∧ (∀ i j, i < M → j < N → 0 < g i j → dA i ≤ dB j - C i j) ∧ (∀ i, i < M → 0 < la i → dA i = 0) ∧
  (∀ i, i < M → 0 ≤ p i → (fA i = -1 ∧ 0 < la i) ∨ ∃ j : Nat, j < N ∧ fA i = j ∧ 0 < g i j ∧ dA i = dB j - C i j ∧ kb j < ka i) ∧ (∀ j, j < N → 0 ≤ q j → ∃ i : Nat, i < M ∧ fB j = i ∧ 0 ≤ p i ∧ dA i + C i j = dB j ∧ ka i < kb j) ∧ (∀ i, i < M → 0 ≤ p i → -110680464442257309648 ≤ ka i ∧ ka i ≤ 221360928884514619298000000)
theorem uRI.ds {M N : Nat} {p q A : Nat → Int} {C g : Nat → Nat → Int} {u v ka kb : Nat → Int} {s : SG} (hX : uCx M N p q C g (fun i => A i - uS (g i) N) u v) (hA : ∀ i, i < M → (0 < A i ↔ 0 ≤ p i)) (hg : ∀ i j, i < M → j < N → 0 ≤ g i j) (h : uRI M N p q C g (fun i => A i - uS (g i) N) u v ka kb s) (hs : ∀ i j, i < M → j < N → uSat p q C g i j s) {i0 : Nat} (hi0 : i0 < M) (h0 : 0 < A i0 - uS (g i0) N) : uDs M N p q C g (fun i => A i - uS (g i) N) u v (udA s) (udB s) ka kb (ufA s) (ufB s) := by
  have nn := h.nn hX
  obtain ⟨x1, x2, x3, x4, x5, x6, x7, x8⟩ := hX
  obtain ⟨h1, h2, h3, h4, h5⟩ := h
  have d0 := h3 i0 hi0 h0
  have p0 := (x8 i0 hi0 h0).2
  have bB : ∀ j, j < N → 0 ≤ q j → v j ≤ udB s j ∧ udB s j ≤ 2000000 := fun j hj hq => by
    have a := (hs i0 j hi0 hj).1 p0 hq (by omega)
    have c := x3 i0 j hi0 hj
    rcases h2 j hj with z | z
    · omega
    · exact ⟨z.2.1, by omega⟩
  have bA : ∀ i, i < M → 0 ≤ p i → u i ≤ udA s i ∧ udA s i ≤ 2000000 := fun i hi hp => by
    by_cases z : 0 < A i - uS (g i) N
    · have := h3 i hi z
      have := x8 i hi z
      have := x4 i hi
      omega
    · have a := (hA i hi).mpr hp
      obtain ⟨j, hj, z⟩ := uS_pos (f := g i) N (by omega)
      have t := x7 i j hi hj z
      have b := bB j hj t.2.2
      have c := (hs i j hi hj).2 z (by omega)
      have e := x3 i j hi hj
      rcases h1 i hi with y | y
      · omega
      · exact ⟨y.2.1, by omega⟩
  refine ⟨bA, bB, fun i j hi hj hp hq => (hs i j hi hj).1 hp hq (by have := bA i hi hp; omega), fun i j hi hj z => (hs i j hi hj).2 z (by have := bB j hj (x7 i j hi hj z).2.2; omega), h3, fun i hi hp => ?_, fun j hj hq => ?_, fun i hi hp => ?_⟩
  · rcases h4 i hi with ⟨y1, y2⟩ | ⟨j, y1, y2, y3, y4, y5, y6, y7⟩
    · refine Or.inl ⟨y1, ?_⟩
      have := bA i hi hp
      rcases y2 with z | z
      · omega
      · exact z.2
    · have c := (hs i j hi y1).2 y3 y4
      exact Or.inr ⟨j, y1, y2, y3, by omega, y7⟩
  · have b := bB j hj hq
    rcases h5 j hj with ⟨y1, y2⟩ | ⟨i, y1, y2, y3, y4, y5, y6, y7, y8⟩
    · omega
    · have c := (hs i j y1 hj).1 y3 hq y5
      exact ⟨i, y1, y2, y3, by omega, y8⟩
  · have b := bA i hi hp
    have c := x4 i hi
    rcases h1 i hi with y | y
    · omega
    · omega
