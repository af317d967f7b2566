/-! ===== the model's reader of words: its small steps ===== -/
def nK (σ : SG) (e : Nat) : Int := (σ.1 6 e).toInt
def nA (σ : SG) (e : Nat) : Int := (σ.1 7 e).toInt
def nB (σ : SG) (e : Nat) : Int := (σ.1 8 e).toInt
/-- the nodes below ν: children lie below -/
def WT (σ : SG) (ν : Nat) : Prop := ∀ e, e < ν → 0 ≤ nK σ e ∧ nK σ e ≤ 8 ∧ (nK σ e = 1 → -999 ≤ nA σ e) ∧ (nK σ e = 4 ∨ nK σ e = 5 → 0 ≤ nA σ e ∧ nA σ e < e ∧ 0 ≤ nB σ e ∧ nB σ e < e) ∧ (nK σ e = 6 ∨ nK σ e = 7 ∨ nK σ e = 8 → 0 ≤ nA σ e ∧ nA σ e < e)
def kpt (ν : Nat) (σ σ' : SG) : Prop := ∀ e, e < ν → σ'.1 6 e = σ.1 6 e ∧ σ'.1 7 e = σ.1 7 e ∧ σ'.1 8 e = σ.1 8 e
theorem kpt.rf {ν : Nat} {σ : SG} : kpt ν σ σ := fun _ _ => ⟨rfl, rfl, rfl⟩
theorem kpt.tr {ν ν' : Nat} {σ σ1 σ2 : SG} (h : kpt ν σ σ1) (q : kpt ν' σ1 σ2) (z : ν ≤ ν') : kpt ν σ σ2 := fun e he => ⟨(q e (by omega)).1.trans (h e he).1, (q e (by omega)).2.1.trans (h e he).2.1, (q e (by omega)).2.2.trans (h e he).2.2⟩
theorem WT.kp {ν : Nat} {σ σ' : SG} (h : WT σ ν) (k : kpt ν σ σ') : WT σ' ν := fun e he => by
  have q := k e he
  unfold nK nA nB
  rw [q.1, q.2.1, q.2.2]
  exact h e he
def uLt (σ : SG) (f e : Nat) : LG := Lt (nK σ) (nA σ) (nB σ) f e
theorem Lt.s {kd ka kb : Nat → Int} {f e : Nat} : Lt kd ka kb (f + 1) e = (if kd e = 0 then gEps else if kd e = 4 then gCat (Lt kd ka kb f (ka e).toNat) (Lt kd ka kb f (kb e).toNat) else if kd e = 5 then gOr (Lt kd ka kb f (ka e).toNat) (Lt kd ka kb f (kb e).toNat) else if kd e = 6 then gStar (Lt kd ka kb f (ka e).toNat) else if kd e = 7 then gPlus (Lt kd ka kb f (ka e).toNat) else if kd e = 8 then gMay (Lt kd ka kb f (ka e).toNat) else gAtom (alo kd ka e) (ahi kd kb e)) := rfl
theorem uLt.kp {ν : Nat} {σ σ' : SG} (h : WT σ ν) (k : kpt ν σ σ') : ∀ (f e : Nat), e < ν → uLt σ' f e = uLt σ f e := by
  intro f
  induction f with
  | zero =>
    intro e _
    have a : ∀ kd ka kb : Nat → Int, Lt kd ka kb 0 e = gNo := fun _ _ _ => rfl
    unfold uLt
    rw [a, a]
  | succ f ih =>
    intro e he
    have q := k e he
    have w := h e he
    have e1 : nK σ' e = nK σ e := by unfold nK; rw [q.1]
    have e2 : nA σ' e = nA σ e := by unfold nA; rw [q.2.1]
    have e3 : nB σ' e = nB σ e := by unfold nB; rw [q.2.2]
    unfold uLt at ih ⊢
    rw [Lt.s, Lt.s]
    unfold alo ahi
    rw [e1, e2, e3]
    by_cases q4 : nK σ e = 4 ∨ nK σ e = 5
    · have := w.2.2.2.1 q4
      rw [ih (nA σ e).toNat (by omega), ih (nB σ e).toNat (by omega)]
    · have a4 : ¬ nK σ e = 4 := fun z => q4 (Or.inl z)
      have a5 : ¬ nK σ e = 5 := fun z => q4 (Or.inr z)
      by_cases q6 : nK σ e = 6 ∨ nK σ e = 7 ∨ nK σ e = 8
      · have := w.2.2.2.2 q6
        rw [ih (nA σ e).toNat (by omega)]
        simp only [if_neg a4, if_neg a5]
      · have a6 : ¬ nK σ e = 6 := fun z => q6 (Or.inl z)
        have a7 : ¬ nK σ e = 7 := fun z => q6 (Or.inr (Or.inl z))
        have a8 : ¬ nK σ e = 8 := fun z => q6 (Or.inr (Or.inr z))
        simp only [if_neg a4, if_neg a5, if_neg a6, if_neg a7, if_neg a8]
theorem WT.wn {ν : Nat} {σ : SG} (h : WT σ ν) (h5 : ν ≤ 500) : ∀ (f e : Nat), e < ν → e < f → Wn (nK σ) (nA σ) (nB σ) f e
  | 0, _, _, z => by omega
  | f + 1, e, he, hf => by
    have w := h e he
    refine ⟨by omega, w.1, w.2.1, w.2.2.1, fun q => ?_, fun q => ?_⟩
    · have := w.2.2.2.1 q
      exact ⟨this.1, this.2.2.1, h.wn h5 f _ (by omega) (by omega), h.wn h5 f _ (by omega) (by omega)⟩
    · have := w.2.2.2.2 q
      exact ⟨this.1, h.wn h5 f _ (by omega) (by omega)⟩
/-- the language of a node -/
def uLn (σ : SG) (e : Nat) : LG := uLt σ 400 e
theorem uLn.kp {ν e : Nat} {σ σ' : SG} (h : WT σ ν) (k : kpt ν σ σ') (he : e < ν) : uLn σ' e = uLn σ e := uLt.kp h k 400 e he
/-- one more step of the fuel doesn't matter -/
theorem uLn.up {ν e : Nat} {σ : SG} (h : WT σ ν) (h5 : ν ≤ 399) (he : e < ν) : uLt σ 399 e = uLn σ e := by
  have w := h.wn (by omega) 399 e he (by omega)
  exact (Wn.up 399 e w).2.symm
theorem uLn.e {e : Nat} {σ : SG} : uLn σ e = (if nK σ e = 0 then gEps else if nK σ e = 4 then gCat (uLt σ 399 (nA σ e).toNat) (uLt σ 399 (nB σ e).toNat) else if nK σ e = 5 then gOr (uLt σ 399 (nA σ e).toNat) (uLt σ 399 (nB σ e).toNat) else if nK σ e = 6 then gStar (uLt σ 399 (nA σ e).toNat) else if nK σ e = 7 then gPlus (uLt σ 399 (nA σ e).toNat) else if nK σ e = 8 then gMay (uLt σ 399 (nA σ e).toNat) else gAtom (alo (nK σ) (nA σ) e) (ahi (nK σ) (nB σ) e)) := rfl
/-! the state at a lookahead token -/
def MG (tc : Nat) (tb : Nat → Int) (pl : Nat) (cd vl : Int) (nx A op ν : Nat) (σ0 σ : SG) : Prop :=
  uTM tc tb σ ∧ (σ.1 0 10).toInt = pl ∧ (σ.1 0 9).toInt = mtk cd ∧ (σ.1 0 8).toInt = nx ∧ (cd = 48 → (σ.1 0 11).toInt = vl) ∧ (mark cd → (σ.1 0 11).toInt = cd) ∧ σ.1 0 12 = 0 ∧ (σ.1 0 19).toInt = A ∧ (σ.1 0 20).toInt = op ∧ (σ.1 0 18).toInt = ν ∧ WT σ ν ∧ frM [7] σ0 σ
theorem Tok.m {tc : Nat} {tb : Nat → Int} {u pl nx : Nat} {cd vl : Int} (h : Tok tc tb u pl cd vl nx) : cd = 0 ∨ cd = 48 ∨ cd = -1 ∨ mark cd := by
  obtain ⟨-, h5⟩ := h
  rcases h5 with ⟨a1, a2, a3⟩ | ⟨a1, a2, a3, a4, a5⟩ | ⟨a1, a2, a3, a4, a5⟩
  · exact Or.inl a2
  · by_cases z : nx - bgn tb pl ≤ 3
    · exact Or.inr (Or.inl (a4 z).1)
    · exact Or.inr (Or.inr (Or.inl (a5 (by omega))))
  · by_cases z : mark (tb pl)
    · have := a4 z
      rw [← this] at z
      exact Or.inr (Or.inr (Or.inr z))
    · exact Or.inr (Or.inr (Or.inl (a5 z)))
theorem rgM7 {k i : Nat} (h : (k = 0 ∧ ((8 ≤ i ∧ i < 14) ∨ (14 < i ∧ i < 21))) ∨ (6 ≤ k ∧ k < 9 ∧ i < 500)) : rgM k i = 7 := by
  rcases h with ⟨rfl, h | h⟩ | ⟨h1, h2, h3⟩
  · unfold rgM
    rw [if_pos rfl, if_neg (by omega), if_neg (by omega), if_neg (by omega), if_pos (by omega)]
  · unfold rgM
    rw [if_pos rfl, if_neg (by omega), if_neg (by omega), if_neg (by omega), if_neg (by omega), if_neg (by omega), if_pos (by omega)]
  · unfold rgM
    rw [if_neg (by omega), if_neg (by omega), if_neg (by omega), if_neg (by omega), if_pos (by omega), if_pos h3]
theorem frM7 {σ0 σ σ' : SG} (h : frM [7] σ0 σ) (f : ∀ k i, ¬ ((k = 0 ∧ ((8 ≤ i ∧ i < 14) ∨ (14 < i ∧ i < 21))) ∨ (6 ≤ k ∧ k < 9 ∧ i < 500)) → σ'.1 k i = σ.1 k i) (f2 : σ'.2 = σ.2) : frM [7] σ0 σ' := by
  refine h.tr ⟨fun k i z => f k i (fun y => z (by rw [rgM7 y]; decide)), fun _ => by rw [f2], by rw [f2]⟩
theorem m_good {σ : SG} : uOk (m_X12_good σ) (fun v s => s = σ ∧ (v = 0 ↔ ¬ σ.1 0 12 = 0)) := by
  unfold m_X12_good m_X12_good_0
  exact ok_ite (fun q => ok_r ⟨rfl, fun _ => q, fun _ => rfl⟩) (fun q => ok_r ⟨rfl, fun z => absurd z (by decide), fun z => absurd z q⟩)
theorem m_is {tc : Nat} {tb : Nat → Int} {u pl : Nat} {cd vl : Int} {nx A op ν : Nat} {σ0 σ : SG} {p : Int32} (hT : Tok tc tb u pl cd vl nx) (h : MG tc tb pl cd vl nx A op ν σ0 σ) (hp : mark p.toInt) : uOk (m_X12_is σ p) (fun v s => s = σ ∧ (v = 0 ↔ ¬ cd = p.toInt)) := by
  obtain ⟨-, -, h9, -, h11, h11', h12, -⟩ := h
  have k2 : ((2 : Int32)).toInt = 2 := rfl
  unfold m_X12_is m_X12_is_0
  refine ok_b m_good (fun v1 s2 g => ?_)
  obtain ⟨rfl, g⟩ := g
  have mt : mtk cd = 2 ↔ mark cd := by
    unfold mtk
    have hm := hT.m
    have no : ∀ k : Int, k = 0 ∨ k = 48 ∨ k = -1 → ¬ mark k := fun k hk z => by unfold mark at z; omega
    constructor
    · intro z
      rcases hm with y | y | y | y
      · rw [if_pos y] at z; omega
      · rw [if_neg (by omega), if_pos y] at z; omega
      · rw [if_neg (by omega), if_neg (by omega), if_pos y] at z; omega
      · exact y
    · intro z
      have : ¬ (cd = 0 ∨ cd = 48 ∨ cd = -1) := fun y => no cd y z
      rw [if_neg (by omega), if_neg (by omega), if_neg (by omega)]
  refine ok_ite (fun q => absurd h12 (g.mp q)) (fun q => ok_ite (fun q2 => ok_r ⟨rfl, fun _ z => ?_, fun _ => rfl⟩) (fun q2 => ?_))
  · rw [z_eq, h9, k2, mt] at q2
    rw [z] at q2
    exact q2 hp
  · have q2 := Classical.not_not.mp q2
    rw [z_eq, h9, k2, mt] at q2
    have hw := h11' q2
    refine ok_ite (fun q3 => ok_r ⟨rfl, fun _ z => ?_, fun _ => rfl⟩) (fun q3 => ok_r ⟨rfl, fun z => absurd z (by decide), fun z => ?_⟩)
    · exact q3 (by rw [z_eq, hw]; exact z)
    · have q3 := Classical.not_not.mp q3
      rw [z_eq, hw] at q3
      exact absurd q3 z
/-- after a fault -/
def MF (f : Int) (p ν : Nat) (σ0 σ : SG) : Prop := ¬ σ.1 0 12 = 0 ∧ (σ.1 0 12).toInt = f ∧ (σ.1 0 13).toInt = p ∧ (σ.1 0 18).toInt = ν ∧ frM [7] σ0 σ
theorem m_faultS {tc : Nat} {tb : Nat → Int} {pl : Nat} {cd vl : Int} {nx A op ν : Nat} {σ0 σ : SG} {p : Int32} (h : MG tc tb pl cd vl nx A op ν σ0 σ) (hp : ¬ p = 0) : uOk (m_X12_fault σ p) (fun _ s => MF p.toInt pl ν σ0 s) := by
  obtain ⟨-, h10, -, -, -, -, h12, -, -, h18, -, hF⟩ := h
  unfold m_X12_fault m_X12_fault_0
  refine ok_ite (fun q => absurd h12 q) (fun _ => ok_l fun s2 e2 => ok_l fun s4 e4 => ok_r ⟨?_, ?_, ?_, ?_, frM7 hF (fun k i z => ?_) ?_⟩)
  · rw [e4, g_sI, if_neg (by omega), e2, g_sI_s]; exact hp
  · rw [e4, g_sI, if_neg (by omega), e2, g_sI_s]
  · rw [e4, g_sI_s, e2, g_sI, if_neg (by omega)]; exact h10
  · rw [e4, g_sI, if_neg (by omega), e2, g_sI, if_neg (by omega)]; exact h18
  · rw [e4, g_sI, if_neg (by omega), e2, g_sI, if_neg (by omega)]
  · rw [e4, e2]; rfl
theorem m_mis {tc : Nat} {tb : Nat → Int} {pl : Nat} {cd vl : Int} {nx A op ν : Nat} {σ0 σ : SG} (h : MG tc tb pl cd vl nx A op ν σ0 σ) : uOk (m_X12_misplaced σ) (fun _ s => MF (if cd = -1 then 1 else 2) pl ν σ0 s) := by
  have h9 := h.2.2.1
  have k3 : ((3 : Int32)).toInt = 3 := rfl
  have mt : mtk cd = 3 ↔ cd = -1 := by unfold mtk; split <;> (try split) <;> (try split) <;> omega
  unfold m_X12_misplaced m_X12_misplaced_0
  refine ok_ite (fun q => ok_b (m_faultS h (by decide)) (fun _ s3 g3 => ok_r ?_)) (fun q => ok_b (m_faultS h (by decide)) (fun _ s6 g6 => ok_r ?_))
  · rw [if_neg (fun z => q (by rw [z_eq, h9, k3, mt]; exact z))]; exact g3
  · have q := Classical.not_not.mp q
    rw [z_eq, h9, k3, mt] at q
    rw [if_pos q]; exact g6
theorem m_node {ν : Nat} {σ : SG} {k x y : Int32} (hn : (σ.1 0 18).toInt = ν) (h5 : ν < 500) : uOk (m_X12_node σ k x y) (fun v s => v.toInt = ν ∧ (s.1 0 18).toInt = (ν + 1 : Nat) ∧ s.1 6 ν = k ∧ s.1 7 ν = x ∧ s.1 8 ν = y ∧ (∀ k' i, ¬ (k' = 0 ∧ i = 18) → ¬ (6 ≤ k' ∧ k' < 9 ∧ i = ν) → s.1 k' i = σ.1 k' i) ∧ s.2 = σ.2) := by
  unfold m_X12_node m_X12_node_0
  rw [z_nv hn]
  refine ok_i (by omega) (ok_l fun s2 e2 => ?_)
  have n2 : s2.1 0 18 = σ.1 0 18 := by rw [e2, g_sI, if_neg (by omega)]
  rw [n2, z_nv hn]
  refine ok_i (by omega) (ok_l fun s5 e5 => ?_)
  have n5 : s5.1 0 18 = σ.1 0 18 := by rw [e5, g_sI, if_neg (by omega), n2]
  rw [n5, z_nv hn]
  refine ok_i (by omega) (ok_l fun s8 e8 => ok_l fun s10 e10 => ok_r ?_)
  have n8 : s8.1 0 18 = σ.1 0 18 := by rw [e8, g_sI, if_neg (by omega), n5]
  have n10 : (s10.1 0 18).toInt = (ν + 1 : Nat) := by rw [e10, g_sI_s, n8, z_add1 (by omega), hn]; rfl
  refine ⟨by rw [z_sub1 (by omega), n10]; omega, n10, ?_, ?_, ?_, fun k' i z1 z2 => ?_, by rw [e10, e8, e5, e2]; rfl⟩
  · rw [e10, g_sI, if_neg (by omega), e8, g_sI, if_neg (by omega), e5, g_sI, if_neg (by omega), e2, g_sI_s]
  · rw [e10, g_sI, if_neg (by omega), e8, g_sI, if_neg (by omega), e5, g_sI_s]
  · rw [e10, g_sI, if_neg (by omega), e8, g_sI_s]
  · rw [e10, g_sI, if_neg (by omega), e8, g_sI, if_neg (by omega), e5, g_sI, if_neg (by omega), e2, g_sI, if_neg (by omega)]
theorem m_nodeF {f : Int} {p ν : Nat} {σ0 σ : SG} {k x y : Int32} (h : MF f p ν σ0 σ) (h5 : ν < 500) : uOk (m_X12_node σ k x y) (fun _ s => MF f p (ν + 1) σ0 s) := by
  refine (m_node h.2.2.2.1 h5).mono (fun v s g => ?_)
  obtain ⟨g1, g2, g3, g4, g5, g6, g7⟩ := g
  exact ⟨by rw [g6 _ _ (by omega) (by omega)]; exact h.1, by rw [g6 _ _ (by omega) (by omega)]; exact h.2.1, by rw [g6 _ _ (by omega) (by omega)]; exact h.2.2.1, g2, frM7 h.2.2.2.2 (fun k i z => g6 k i (by omega) (by omega)) g7⟩
theorem m_nodeG {tc : Nat} {tb : Nat → Int} {pl : Nat} {cd vl : Int} {nx A op ν : Nat} {σ0 σ : SG} {k x y : Int32} (h : MG tc tb pl cd vl nx A op ν σ0 σ) (h5 : ν < 399) (c0 : 0 ≤ k.toInt) (c8 : k.toInt ≤ 8) (c1 : k.toInt = 1 → -999 ≤ x.toInt) (c4 : k.toInt = 4 ∨ k.toInt = 5 → 0 ≤ x.toInt ∧ x.toInt < ν ∧ 0 ≤ y.toInt ∧ y.toInt < ν) (c6 : k.toInt = 6 ∨ k.toInt = 7 ∨ k.toInt = 8 → 0 ≤ x.toInt ∧ x.toInt < ν) : uOk (m_X12_node σ k x y) (fun v s => v.toInt = ν ∧ MG tc tb pl cd vl nx A op (ν + 1) σ0 s ∧ kpt ν σ s ∧ nK s ν = k.toInt ∧ nA s ν = x.toInt ∧ nB s ν = y.toInt) := by
  obtain ⟨b1, b2, b3, b4, b5, b6, b7, b8, b9, b10, b11, b12⟩ := h
  refine (m_node b10 (by omega)).mono (fun v s g => ?_)
  obtain ⟨g1, g2, g3, g4, g5, g6, g7⟩ := g
  have kp : kpt ν σ s := fun e he => ⟨g6 _ _ (by omega) (by omega), g6 _ _ (by omega) (by omega), g6 _ _ (by omega) (by omega)⟩
  have eK : nK s ν = k.toInt := by unfold nK; rw [g3]
  have eA : nA s ν = x.toInt := by unfold nA; rw [g4]
  have eB : nB s ν = y.toInt := by unfold nB; rw [g5]
  refine ⟨g1, ⟨⟨by rw [g6 _ _ (by omega) (by omega)]; exact b1.1, fun j hj => by rw [g6 _ _ (by omega) (by omega)]; exact b1.2 j hj⟩, by rw [g6 _ _ (by omega) (by omega)]; exact b2, by rw [g6 _ _ (by omega) (by omega)]; exact b3, by rw [g6 _ _ (by omega) (by omega)]; exact b4, by rw [g6 _ _ (by omega) (by omega)]; exact b5, by rw [g6 _ _ (by omega) (by omega)]; exact b6, by rw [g6 _ _ (by omega) (by omega)]; exact b7, by rw [g6 _ _ (by omega) (by omega)]; exact b8, by rw [g6 _ _ (by omega) (by omega)]; exact b9, g2, fun e he => ?_, frM7 b12 (fun k i z => g6 k i (by omega) (by omega)) g7⟩, kp, eK, eA, eB⟩
  by_cases z : e = ν
  · rw [z, eK, eA, eB]
    exact ⟨c0, c8, c1, c4, c6⟩
  · exact (b11.kp kp) e (by omega)
theorem m_nextG {tc : Nat} {tb : Nat → Int} {u pl : Nat} {cd vl : Int} {nx A op ν : Nat} {σ0 σ : SG} (hB : uTB tc tb) (hT : Tok tc tb u pl cd vl nx) (h : MG tc tb pl cd vl nx A op ν σ0 σ) : uOk (m_X12_next σ) (fun _ s => ∃ pl' cd' vl' nx', Tok tc tb nx pl' cd' vl' nx' ∧ MG tc tb pl' cd' vl' nx' A op ν σ0 s ∧ kpt ν σ s) := by
  obtain ⟨b1, b2, b3, b4, b5, b6, b7, b8, b9, b10, b11, b12⟩ := h
  refine (m_next hB b1 b4 hT.b.2.2.2.1).mono (fun _ s g => ?_)
  obtain ⟨pl', cd', vl', nx', t, f1, f2, f3, f4, f5, f6⟩ := g
  have kp : kpt ν σ s := fun e he => ⟨f1.1 _ _ (by omega), f1.1 _ _ (by omega), f1.1 _ _ (by omega)⟩
  exact ⟨pl', cd', vl', nx', t, ⟨f1.t b1 (by omega), f2, f3, f4, f5, f6, by rw [f1.1 _ _ (by omega)]; exact b7, by rw [f1.1 _ _ (by omega)]; exact b8, by rw [f1.1 _ _ (by omega)]; exact b9, by rw [f1.1 _ _ (by omega)]; exact b10, b11.kp kp, frM7 b12 (fun k i z => f1.1 k i (by omega)) f1.2⟩, kp⟩
theorem m_takeG {tc : Nat} {tb : Nat → Int} {u pl : Nat} {cd vl : Int} {nx A op ν : Nat} {σ0 σ : SG} {p : Int32} (hB : uTB tc tb) (hT : Tok tc tb u pl cd vl nx) (h : MG tc tb pl cd vl nx A op ν σ0 σ) (hp : mark p.toInt) : uOk (m_X12_take σ p) (fun _ s => (cd = p.toInt → ∃ pl' cd' vl' nx', Tok tc tb nx pl' cd' vl' nx' ∧ MG tc tb pl' cd' vl' nx' A op ν σ0 s ∧ kpt ν σ s) ∧ (¬ cd = p.toInt → MF (if cd = -1 then 1 else 2) pl ν σ0 s)) := by
  unfold m_X12_take m_X12_take_0
  refine ok_b (m_is hT h hp) (fun v1 s2 g => ?_)
  obtain ⟨rfl, g⟩ := g
  exact ok_ite (fun q => ok_b (m_nextG hB hT h) (fun _ s6 g6 => ok_r ⟨fun _ => g6, fun z => absurd (g.mpr z) q⟩)) (fun q => ok_b (m_mis h) (fun _ s9 g9 => ok_r ⟨fun z => absurd z (g.mp (Classical.not_not.mp q)), fun _ => g9⟩))
theorem m_isF {f : Int} {p ν : Nat} {σ0 σ : SG} {c : Int32} (h : MF f p ν σ0 σ) : uOk (m_X12_is σ c) (fun v s => s = σ ∧ v = 0) := by
  unfold m_X12_is m_X12_is_0
  refine ok_b m_good (fun v1 s2 g => ?_)
  obtain ⟨rfl, g⟩ := g
  exact ok_ite (fun q => ok_r ⟨rfl, rfl⟩) (fun q => absurd (g.mpr h.1) q)
theorem m_faultF {f : Int} {p ν : Nat} {σ0 σ : SG} {c : Int32} (h : MF f p ν σ0 σ) : uOk (m_X12_fault σ c) (fun _ s => s = σ) := by
  unfold m_X12_fault m_X12_fault_0
  exact ok_ite (fun _ => ok_r rfl) (fun q => absurd h.1 q)
theorem m_misF {f : Int} {p ν : Nat} {σ0 σ : SG} (h : MF f p ν σ0 σ) : uOk (m_X12_misplaced σ) (fun _ s => s = σ) := by
  unfold m_X12_misplaced m_X12_misplaced_0
  exact ok_ite (fun _ => ok_b (m_faultF h) (fun _ s g => ok_r g)) (fun _ => ok_b (m_faultF h) (fun _ s g => ok_r g))
theorem m_takeF {f : Int} {p ν : Nat} {σ0 σ : SG} {c : Int32} (h : MF f p ν σ0 σ) : uOk (m_X12_take σ c) (fun _ s => s = σ) := by
  unfold m_X12_take m_X12_take_0
  refine ok_b (m_isF h) (fun v1 s2 g => ?_)
  obtain ⟨rfl, g⟩ := g
  exact ok_ite (fun q => absurd g q) (fun _ => ok_b (m_misF h) (fun _ s g => ok_r g))
