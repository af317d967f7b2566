/-! ===== word, on both sides ===== -/
def uL0 : Nat → GL := fun _ => (gNo, gEps, gEps)
def MWq (tc : Nat) (tb : Nat → Int) (ow : Option LG) (σ : SG) (v : Int32) (σ' : SG) : Prop := ∃ o, uRd tc tb 0 0 0 0 false 0 0 uL0 o ∧ frM [11, 2, 3, 4, 7] σ σ' ∧ (σ'.1 0 7).toInt = 0 ∧ (∀ f p, o = .inl (f, p) → v.toInt = -10 - (p : Nat) ∧ p ≤ 160 ∧ FaM f σ' ∧ MWS ow σ') ∧ (∀ A G, o = .inr (A, G) → v.toInt = (A : Nat) ∧ FaM 0 σ' ∧ MWS (some G) σ')
theorem g_sA2 {σ : SG} {k : Nat} {f : Nat → Int32} : (sA σ k f).2 = σ.2 := rfl
theorem cpyK {σ : SG} {k ν : Nat} : ∀ i, (sA σ k (va_cpy (σ.1 k) (σ.1 k) 0 500 ν)).1 k i = if 500 ≤ i ∧ i < 500 + ν then σ.1 k (i - 500) else σ.1 k i := fun i => by
  rw [g_sA, if_pos rfl]
  unfold va_cpy
  by_cases z : 500 ≤ i ∧ i < 500 + ν
  · rw [if_pos z, if_pos z, Nat.zero_add]
  · rw [if_neg z, if_neg z]
theorem m_word57G {tc : Nat} {tb : Nat → Int} {ow : Option LG} {σ σ0 s : SG} {pl : Nat} {cd vl : Int} {nx A ν e : Nat} {l1 : Int32} {G : LG} (hf : frM [11, 7] σ σ0) (h : MG tc tb pl cd vl nx A 0 ν σ0 s) (hν : ν ≤ 390) (hl : l1.toInt = (e : Nat)) (he : e < ν) (hG : ∀ sg N i j, G sg N i j ↔ uLn s e sg N i j) (ho : uRd tc tb 0 0 0 0 false 0 0 uL0 (.inr (A, G))) : uOk (m_X12_word_57 s l1) (MWq tc tb ow σ) := by
  obtain ⟨b1, b2, b3, b4, b5, b6, b7, b8, b9, b10, b11, b12⟩ := h
  unfold m_X12_word_57
  refine ok_l fun s27 e27 => ok_l fun s29 e29 => ?_
  have g29 : ∀ k i, ¬ (k = 0 ∧ (i = 7 ∨ i = 14)) → s29.1 k i = s.1 k i := fun k i z => by rw [e29, g_sI, if_neg (by omega), e27, g_sI, if_neg (by omega)]
  have d29 : s29.2 = s.2 := by rw [e29, e27]; rfl
  refine ok_b m_good (fun v31 s32 g31 => ?_)
  obtain ⟨rfl, g31⟩ := g31
  have h18 : (s32.1 0 18).toInt = ν := by rw [g29 _ _ (by omega)]; exact b10
  have cp : ∀ t : SG, (t.1 0 18).toInt = ν → cpB 0 500 (t.1 0 18) 1000 1000 = true := fun t ht => by
    have k0 : ((0 : Int32)).toInt = 0 := rfl
    have n0 : ((0 : Int32)).toNatClampNeg = 0 := rfl
    have n5 : ((500 : Int32)).toNatClampNeg = 500 := rfl
    unfold cpB
    rw [n0, n5, z_nv ht]
    refine decide_eq_true ⟨by decide, by decide, fun z => ?_, by omega, by omega⟩
    rw [z_lt, ht, k0] at z; omega
  have n0 : ((0 : Int32)).toNatClampNeg = 0 := rfl
  have n5 : ((500 : Int32)).toNatClampNeg = 500 := rfl
  refine ok_ite (fun q => ok_g (cp s32 h18) (ok_l fun s36 e36 => ?_)) (fun q => absurd (by rw [g29 _ _ (by omega)]; exact b7) (g31.mp (Classical.not_not.mp q)))
  rw [z_nv h18, n0, n5] at e36
  have i36 : ∀ k i, k ≠ 6 → s36.1 k i = s32.1 k i := fun k i z => by rw [e36, g_sA, if_neg z]
  have h36 : (s36.1 0 18).toInt = ν := by rw [i36 _ _ (by omega)]; exact h18
  refine ok_g (cp s36 h36) (ok_l fun s39 e39 => ?_)
  rw [z_nv h36, n0, n5] at e39
  have i39 : ∀ k i, k ≠ 7 → s39.1 k i = s36.1 k i := fun k i z => by rw [e39, g_sA, if_neg z]
  have h39 : (s39.1 0 18).toInt = ν := by rw [i39 _ _ (by omega)]; exact h36
  refine ok_g (cp s39 h39) (ok_l fun s42 e42 => ok_l fun s44 e44 => ok_r ?_)
  rw [z_nv h39, n0, n5] at e42
  have i42 : ∀ k i, k ≠ 8 → s42.1 k i = s39.1 k i := fun k i z => by rw [e42, g_sA, if_neg z]
  have i44 : ∀ k i, ¬ (k = 0 ∧ i = 21) → s44.1 k i = s42.1 k i := fun k i z => by rw [e44, g_sI, if_neg z]
  have d44 : s44.2 = s.2 := by rw [e44, g_sI2, e42, g_sA2, e39, g_sA2, e36, g_sA2, d29]
  -- the kept nodes
  have c6 : ∀ i, s44.1 6 i = if 500 ≤ i ∧ i < 500 + ν then s.1 6 (i - 500) else s.1 6 i := fun i => by
    rw [i44 _ _ (by omega), i42 _ _ (by omega), i39 _ _ (by omega), e36, cpyK]
    rw [g29 _ _ (by omega), g29 _ _ (by omega)]
  have c7 : ∀ i, s44.1 7 i = if 500 ≤ i ∧ i < 500 + ν then s.1 7 (i - 500) else s.1 7 i := fun i => by
    rw [i44 _ _ (by omega), i42 _ _ (by omega), e39, cpyK]
    rw [i36 _ _ (by omega), i36 _ _ (by omega), g29 _ _ (by omega), g29 _ _ (by omega)]
  have c8 : ∀ i, s44.1 8 i = if 500 ≤ i ∧ i < 500 + ν then s.1 8 (i - 500) else s.1 8 i := fun i => by
    rw [i44 _ _ (by omega), e42, cpyK]
    rw [i39 _ _ (by omega), i39 _ _ (by omega), i36 _ _ (by omega), i36 _ _ (by omega), g29 _ _ (by omega), g29 _ _ (by omega)]
  have i0 : ∀ i, i ≠ 21 → s44.1 0 i = s32.1 0 i := fun i z => by rw [i44 _ _ (by omega), i42 _ _ (by omega), i39 _ _ (by omega), i36 _ _ (by omega)]
  have fa : FaM 0 s44 := by
    unfold FaM
    rw [i0 _ (by omega), e29, g_sI_s, e27, g_sI, if_neg (by omega), b7]; rfl
  refine ⟨_, ho, ?_, ?_, fun f p z => (by cases z), fun A' G' z => ?_⟩
  · have f1 : frM [11, 2, 3, 4, 7] σ s := (hf.tr (b12.wk (by simp))).wk (by simp)
    refine f1.tr ⟨fun k i z => ?_, fun _ => by rw [d44], by rw [d44]⟩
    have nz : ∀ g, g ∈ [11, 2, 3, 4, 7] → ¬ rgM k i = g := fun g hg y => z (by rw [y]; exact hg)
    have r4 := nz 4 (by simp)
    have r2 := nz 2 (by simp)
    have r3 := nz 3 (by simp)
    have hk : ¬ (6 ≤ k ∧ k < 9 ∧ 500 ≤ i) := fun y => r4 (by unfold rgM; rw [if_neg (by omega), if_neg (by omega), if_neg (by omega), if_neg (by omega), if_pos (by omega), if_neg (by omega)])
    have h0 : ¬ (k = 0 ∧ (i = 7 ∨ i = 14 ∨ i = 21)) := by
      rintro ⟨rfl, rfl | rfl | rfl⟩
      · exact r2 rfl
      · exact r3 rfl
      · exact r4 rfl
    by_cases k6 : k = 6
    · rw [k6, c6, if_neg (by omega)]
    · by_cases k7 : k = 7
      · rw [k7, c7, if_neg (by omega)]
      · by_cases k8 : k = 8
        · rw [k8, c8, if_neg (by omega)]
        · rw [i44 _ _ (by omega), i42 _ _ k8, i39 _ _ k7, i36 _ _ k6, g29 _ _ (by omega)]
  · rw [i0 _ (by omega), e29, g_sI, if_neg (by omega), e27, g_sI_s]; rfl
  · have z := Sum.inr.inj z
    have hA' : A = A' := congrArg Prod.fst z
    have hG' : G = G' := congrArg Prod.snd z
    subst hA' hG'
    refine ⟨by rw [i0 _ (by omega), g29 _ _ (by omega)]; exact b8, fa, Or.inr ⟨G, e, fun e => (s44.1 6 (500 + e)).toInt, fun e => (s44.1 7 (500 + e)).toInt, fun e => (s44.1 8 (500 + e)).toInt, rfl, by rw [e44, g_sI_s]; exact hl, fun e _ => ⟨rfl, rfl, rfl⟩, ?_⟩⟩
    -- the kept tree is the read one
    have T : kpt ν s ((fun k i => s44.1 k (500 + i), s.2) : SG) := fun e he => by
      show s44.1 6 (500 + e) = _ ∧ s44.1 7 (500 + e) = _ ∧ s44.1 8 (500 + e) = _
      rw [c6, c7, c8, if_pos (by omega), if_pos (by omega), if_pos (by omega), Nat.add_sub_cancel_left]
      exact ⟨rfl, rfl, rfl⟩
    have W : WT ((fun k i => s44.1 k (500 + i), s.2) : SG) ν := b11.kp T
    refine ⟨W.wn (by omega) 400 e he (by omega), fun sg N i j => ?_⟩
    rw [hG, ← uLn.kp b11 T he]
    exact Iff.rfl
theorem m_word57F {tc : Nat} {tb : Nat → Int} {ow : Option LG} {σ σ0 s : SG} {f : Int} {p ν : Nat} {l1 : Int32} (hf : frM [11, 7] σ σ0) (hW : MWS ow σ) (h : MF f p ν σ0 s) (hp : p ≤ 160) (ho : uRd tc tb 0 0 0 0 false 0 0 uL0 (.inl (f, p))) : uOk (m_X12_word_57 s l1) (MWq tc tb ow σ) := by
  obtain ⟨b1, b2, b3, b4, b5⟩ := h
  unfold m_X12_word_57
  refine ok_l fun s27 e27 => ok_l fun s29 e29 => ?_
  have g29 : ∀ k i, ¬ (k = 0 ∧ (i = 7 ∨ i = 14)) → s29.1 k i = s.1 k i := fun k i z => by rw [e29, g_sI, if_neg (by omega), e27, g_sI, if_neg (by omega)]
  have d29 : s29.2 = s.2 := by rw [e29, e27]; rfl
  refine ok_b m_good (fun v31 s32 g31 => ?_)
  obtain ⟨rfl, g31⟩ := g31
  have f1 : frM [11, 7] σ s := hf.tr (b5.wk (by simp))
  have f2 : frM [11, 2, 3, 7] σ s32 := (f1.wk (by simp)).tr ⟨fun k i z => g29 k i (fun y => z (by
    obtain ⟨rfl, rfl | rfl⟩ := y
    · show (2 : Nat) ∈ _; simp
    · show (3 : Nat) ∈ _; simp)), fun _ => by rw [d29], by rw [d29]⟩
  have h13 : (s32.1 0 13).toInt = p := by rw [g29 _ _ (by omega)]; exact b3
  have k10 : ((-10 : Int32)).toInt = -10 := rfl
  refine ok_ite (fun q => absurd (g31.mpr (by rw [g29 _ _ (by omega)]; exact b1)) q) (fun q => ok_r ⟨_, ho, f2.wk (by simp), ?_, fun f' p' z => ?_, fun A' G' z => (by cases z)⟩)
  · rw [e29, g_sI, if_neg (by omega), e27, g_sI_s]; rfl
  · have z := Sum.inl.inj z
    have e1 : f = f' := congrArg Prod.fst z
    have e2 : p = p' := congrArg Prod.snd z
    subst e1 e2
    refine ⟨by rw [z_subv k10 h13 (by omega) (by omega)], hp, ?_, hW.fr f2 (by decide)⟩
    unfold FaM
    rw [e29, g_sI_s, e27, g_sI, if_neg (by omega)]
    exact b2
theorem ARs.cs {K : ARK} {d A aw : Nat} {rp : Bool} {lo hi : Int} {Λ : Nat → GL} {pl : Nat} {cd vl : Int} {nx : Nat} {o : OUT} (h : ARs K d A aw rp lo hi Λ pl cd vl nx o) : (∃ f, o = .inl (f, pl)) ∨ (∃ x, o = .inr x) ∨ ∃ (u d A aw : Nat) (rp : Bool) (lo hi : Int) (Λ : Nat → GL), K u d A aw rp lo hi Λ o := by
  have ite : ∀ {c : Prop} [Decidable c] {P Q R : Prop}, (if c then P else Q) → (P → R) → (Q → R) → R := by
    intro c _ P Q R h h1 h2
    by_cases z : c
    · rw [if_pos z] at h; exact h1 h
    · rw [if_neg z] at h; exact h2 h
  have fl : ∀ {f : Int}, o = .inl (f, pl) → (∃ f, o = .inl (f, pl)) ∨ (∃ x, o = .inr x) ∨ ∃ (u d A aw : Nat) (rp : Bool) (lo hi : Int) (Λ : Nat → GL), K u d A aw rp lo hi Λ o := fun h => Or.inl ⟨_, h⟩
  have gd : ∀ {x : Nat × LG}, o = .inr x → (∃ f, o = .inl (f, pl)) ∨ (∃ x, o = .inr x) ∨ ∃ (u d A aw : Nat) (rp : Bool) (lo hi : Int) (Λ : Nat → GL), K u d A aw rp lo hi Λ o := fun h => Or.inr (Or.inl ⟨_, h⟩)
  have kk : ∀ {u d A aw : Nat} {rp : Bool} {lo hi : Int} {Λ : Nat → GL}, K u d A aw rp lo hi Λ o → (∃ f, o = .inl (f, pl)) ∨ (∃ x, o = .inr x) ∨ ∃ (u d A aw : Nat) (rp : Bool) (lo hi : Int) (Λ : Nat → GL), K u d A aw rp lo hi Λ o := fun h => Or.inr (Or.inr ⟨_, _, _, _, _, _, _, _, h⟩)
  have at' : ∀ {a b : Int}, ARatom K d A lo hi Λ pl nx a b o → (∃ f, o = .inl (f, pl)) ∨ (∃ x, o = .inr x) ∨ ∃ (u d A aw : Nat) (rp : Bool) (lo hi : Int) (Λ : Nat → GL), K u d A aw rp lo hi Λ o := fun h => ite h kk fl
  exact ite h fl (fun h => ite h (fun h => ite h (fun h => ite h gd fl) (fun h => ite h (fun h => ite h kk fl) (fun h => ite h (fun h => ite h fl kk) (fun h => ite h (fun h => ite h kk fl) (fun h => ite h at' (fun h => ite h at' (fun h => ite h (fun h => ite h kk fl) (fun h => ite h at' (fun h => ite h kk fl))))))))) (fun h => ite h fl (fun h => ite h kk (fun h => ite h kk (fun h => ite h (fun h => ite h fl kk) at')))))
theorem uRd.pl {tc : Nat} {tb : Nat → Int} (hB : uTB tc tb) {u d A aw : Nat} {rp : Bool} {lo hi : Int} {Λ : Nat → GL} {f : Int} {p : Nat} (h : uRd tc tb u d A aw rp lo hi Λ (.inl (f, p))) : p ≤ 160 := by
  obtain ⟨n, h⟩ := h
  induction n generalizing u d A aw rp lo hi Λ with
  | zero => exact h.elim
  | succ n ih =>
    obtain ⟨pl, cd, vl, nx, hT, hK⟩ := h
    have t := hT.b
    have b := hB.1
    rcases hK.cs with ⟨f', e⟩ | ⟨x, e⟩ | ⟨u, d, A, aw, rp, lo, hi, Λ, h⟩
    · have e : p = pl := congrArg Prod.snd (Sum.inl.inj e)
      omega
    · cases e
    · exact ih h
theorem m_word {tc : Nat} {tb : Nat → Int} {ow : Option LG} {σ : SG} (hB : uTB tc tb) (hT : uTM tc tb σ) (hW : MWS ow σ) : uOk (m_X12_word σ) (MWq tc tb ow σ) := by
  have b := hB.1
  unfold m_X12_word m_X12_word_0
  refine ok_l fun s1 e1 => ok_l fun s3 e3 => ok_l fun s5 e5 => ok_l fun s7 e7 => ok_l fun s9 e9 => ok_l fun s11 e11 => ?_
  have g11 : ∀ k i, ¬ (k = 0 ∧ (i = 0 ∨ i = 8 ∨ i = 12 ∨ i = 18 ∨ i = 19 ∨ i = 20)) → s11.1 k i = σ.1 k i := fun k i z => by rw [e11, g_sI, if_neg (by omega), e9, g_sI, if_neg (by omega), e7, g_sI, if_neg (by omega), e5, g_sI, if_neg (by omega), e3, g_sI, if_neg (by omega), e1, g_sI, if_neg (by omega)]
  have d11 : s11.2 = σ.2 := by rw [e11, e9, e7, e5, e3, e1]; rfl
  have f11 : frM [11, 7] σ s11 := ⟨fun k i z => g11 k i (fun y => z (by
    obtain ⟨rfl, y⟩ := y
    rcases y with rfl | rfl | rfl | rfl | rfl | rfl
    · show (11 : Nat) ∈ _; simp
    all_goals show (7 : Nat) ∈ _; simp)), fun _ => by rw [d11], by rw [d11]⟩
  have T11 : uTM tc tb s11 := ⟨by rw [g11 _ _ (by omega)]; exact hT.1, fun j hj => by rw [g11 _ _ (by omega)]; exact hT.2 j hj⟩
  refine ok_b (m_next hB T11 (u := 0) (by rw [e11, g_sI, if_neg (by omega), e9, g_sI, if_neg (by omega), e7, g_sI, if_neg (by omega), e5, g_sI, if_neg (by omega), e3, g_sI_s]; rfl) (by omega)) (fun _ s14 g14 => ?_)
  obtain ⟨pl, cd, vl, nx, T, a1, a2, a3, a4, a5, a6⟩ := g14
  have t := T.b
  have M : MG tc tb pl cd vl nx 0 0 0 s11 s14 := by
    refine ⟨a1.t T11 (by omega), a2, a3, a4, a5, a6, ?_, ?_, ?_, ?_, fun e he => by omega, frM7 frM.rf (fun k i z => a1.1 k i (by omega)) a1.2⟩
    · rw [a1.1 _ _ (by omega), e11, g_sI, if_neg (by omega), e9, g_sI, if_neg (by omega), e7, g_sI, if_neg (by omega), e5, g_sI_s]
    · rw [a1.1 _ _ (by omega), e11, g_sI, if_neg (by omega), e9, g_sI_s]; rfl
    · rw [a1.1 _ _ (by omega), e11, g_sI_s]; rfl
    · rw [a1.1 _ _ (by omega), e11, g_sI, if_neg (by omega), e9, g_sI, if_neg (by omega), e7, g_sI_s]; rfl
  refine ok_b (m_talt (σ0 := s11) hB 9 0 (by omega) (by omega) 0 pl cd vl nx 0 0 0 0 uL0 0 s14 T M (by omega) (by omega) (by omega) rfl) (fun v16 s17 g17 => ?_)
  refine ok_b m_good (fun v19 s20 g19 => ?_)
  obtain ⟨rfl, g19⟩ := g19
  rcases g17 with g | g
  · obtain ⟨u2, pl2, cd2, vl2, nx2, A2, ν2, lo2, hi2, Λ2, rp2, e2, T2, z0, M2, z3, z4, z5, z6, z7, z8, z9, x1, x2, x3, x4, x5⟩ := g
    have t2 := T2.b
    have hg : s20.1 0 12 = 0 := M2.2.2.2.2.2.2.1
    have h9 : (s20.1 0 9).toInt = mtk cd2 := M2.2.2.1
    have k0 : ((0 : Int32)).toInt = 0 := rfl
    have mt0 : mtk cd2 = 0 ↔ cd2 = 0 := by unfold mtk; split <;> (try split) <;> (try split) <;> omega
    refine ok_ite (fun q => absurd hg (g19.mp q)) (fun _ => ok_ite (fun q => ?_) (fun q => ok_b (m_mis M2) (fun _ s25 g25 => m_word57F f11 hW g25 (by omega) (z9 _ (uRd.stop T2 x4 x5 x3 (fun _ => rfl) (fun z => absurd ?_ q))))))
    · rw [z_eq, h9, k0, mt0] at q
      refine m_word57G f11 M2 (by omega) z5 z6 (fun sg N i j => x2 sg N i j) (z9 _ (uRd.s T2 ?_))
      unfold ARs
      rw [if_neg (by omega), if_pos rfl, if_pos q, if_pos rfl]
    · rw [z_eq, h9, k0, mt0]; exact z
  · obtain ⟨ff, p, ν2, pl2, z1, z2, z3, z4⟩ := g
    exact ok_ite (fun _ => m_word57F f11 hW z1 (uRd.pl hB z4) z4) (fun q => absurd (g19.mpr z1.1) q)
/-! the class -/
theorem rgX_W {w k i : Nat} (hw : w < 2) (h : rgX k i ∉ [4, 7]) : ¬ (166 ≤ k ∧ k < 203) ∧ k ≠ 21 + w ∧ k ≠ 23 + w ∧ ¬ (k = 203 + w ∧ i = 0) := by
  have nz : ∀ g, g ∈ [4, 7] → ¬ rgX k i = g := fun g hg y => h (by rw [y]; exact hg)
  have r4 := nz 4 (by simp)
  have r7 := nz 7 (by simp)
  refine ⟨fun z => r7 ?_, fun z => r4 ?_, fun z => r4 ?_, fun z => r4 ?_⟩
  · unfold rgX
    simp only [show ¬ k < 18 by omega, show ¬ k = 18 by omega, show ¬ k = 19 by omega, show ¬ k = 20 by omega, show ¬ k < 25 by omega, show ¬ k < 27 by omega, show ¬ k = 27 by omega, show ¬ k < 40 by omega, show ¬ k = 40 by omega, show ¬ k < 90 by omega, show ¬ k < 95 by omega, show ¬ k < 155 by omega, show ¬ k = 155 by omega, show ¬ k < 165 by omega, show ¬ k = 165 by omega, show k < 203 by omega, if_true, if_false]
  · rw [z]; exact (rgX_w hw).1
  · rw [z]; exact (rgX_w hw).2.1
  · rw [z.1, z.2]; exact (rgX_w (i := 0) hw).2.2.1
theorem frW.X {w : Nat} {σ σ' : SG} (hw : w < 2) (h : frW w σ σ') : frX [4, 7] σ σ' := by
  refine ⟨fun k i z => ?_, fun k i z => ?_, h.2.2⟩
  · have q := rgX_W hw z
    exact h.1 k i q.1 q.2.1 q.2.2.1 q.2.2.2
  · have nz : ∀ g, g ∈ [4, 7] → ¬ rgXJ k i = g := fun g hg y => z (by rw [y]; exact hg)
    have r4 := nz 4 (by simp)
    have r7 := nz 7 (by simp)
    refine h.2.1 k i (fun y => r4 ?_) (fun y => r7 ?_) (fun y => r4 ?_)
    · rw [y]; exact (rgX_w (i := i) hw).2.2.2.2.1
    · unfold rgXJ; rw [if_neg (by omega), if_neg (by omega), if_pos (by omega)]
    · rw [y]; exact (rgX_w (i := i) hw).2.2.2.2.2.2
def XWq (o : OUT) (ow : Option LG) (σ : SG) (v : Int32) (σ' : SG) : Prop := frX [2, 3, 4, 7] σ (σ'.1, σ'.2.1, σ.2.2) ∧ (σ'.1 165 1).toInt = 0 ∧ (∀ f p, o = .inl (f, p) → p ≤ 160 → v.toInt = -10 - (p : Nat) ∧ FaX f σ' ∧ XWS ow σ') ∧ (∀ A G, o = .inr (A, G) → v.toInt = (A : Nat) ∧ FaX 0 σ' ∧ XWS (some G) σ')
theorem XWd.W {Lw : LG} {w w' : Nat} {σ σ' : SG} (h : XWd Lw w σ) (hw' : w' < 2) (hn : w ≠ w') (f : frW w' σ σ') : XWd Lw w σ' := by
  obtain ⟨A, h, q⟩ := h
  obtain ⟨h1, h2, h3, h4, h5, h6⟩ := h
  have i1 : ∀ i, σ'.1 (21 + w) i = σ.1 (21 + w) i := fun i => f.1 _ _ (by omega) (by omega) (by omega) (by omega)
  have i2 : ∀ i, σ'.1 (23 + w) i = σ.1 (23 + w) i := fun i => f.1 _ _ (by omega) (by omega) (by omega) (by omega)
  have i3 : σ'.1 (203 + w) 0 = σ.1 (203 + w) 0 := f.1 _ _ (by omega) (by omega) (by omega) (by omega)
  have j1 : ∀ i, σ'.2.1 (144 + w) i = σ.2.1 (144 + w) i := fun i => f.2.1 _ _ (by omega) (by omega) (by omega)
  have j2 : ∀ i, σ'.2.1 (203 + w) i = σ.2.1 (203 + w) i := fun i => f.2.1 _ _ (by omega) (by omega) (by omega)
  have e1 : fitX w σ' = fitX w σ := fitX_eq i1 i2
  have e2 : FlX w σ' A = FlX w σ A := by
    funext x y
    unfold FlX
    rw [j1]
  refine ⟨A, ⟨h1, h2, by rw [i3]; exact h3, fun x => by rw [j2]; exact h4 x, fun x => by rw [j2]; exact h5 x, fun x y => by rw [j1]; exact h6 x y⟩, fun sg N i j hij => ?_⟩
  rw [e1, e2, j2, j2]
  exact q sg N i j hij
theorem x_word {tc : Nat} {tb : Nat → Int} {ow : Option LG} {o : OUT} {σ : SG} (hB : uTB tc tb) (hT : TX tc tb σ) (hW : XWS ow σ) (ho : uRd tc tb 0 0 0 0 false 0 0 uL0 o) : uOk (m_X11_word σ) (XWq o ow σ) := by
  obtain ⟨⟨r1, r2, r3⟩, hW⟩ := hW
  obtain ⟨n, ho⟩ := ho
  unfold m_X11_word m_X11_word_0
  refine ok_g (decide_eq_true r2) (ok_b (x_read hB hT r2 ho) (fun v3 s4 g4 => ok_l fun s6 e6 => ok_l fun s8 e8 => ?_))
  obtain ⟨f4, a1, a2⟩ := g4
  have F4 := f4.X r2
  have i8 : ∀ k i, ¬ (k = 155 ∧ i = 9) → ¬ (k = 165 ∧ i = 1) → s8.1 k i = s4.1 k i := fun k i z1 z2 => by rw [e8, g_sI, if_neg z2, e6, g_sI, if_neg z1]
  have d8 : s8.2 = s4.2 := by rw [e8, e6]; rfl
  have F8 : frX [2, 3, 4, 7] σ s8 := (F4.wk (by simp)).tr ⟨fun k i z => i8 k i (fun y => z (by rw [y.1, y.2]; show (3 : Nat) ∈ _; simp)) (fun y => z (by rw [y.1, y.2]; show (2 : Nat) ∈ _; simp)), fun k i _ => by rw [d8], by rw [d8]⟩
  have v9 : s8.1 155 9 = v3 := by rw [e8, g_sI, if_neg (by omega), e6, g_sI_s]
  have rr : s8.2.2 = σ.2.2 := by rw [d8, f4.2.2]
  have t0 : (s8.1 165 1).toInt = 0 := by rw [e8, g_sI_s]; rfl
  have k10 : ((-10 : Int32)).toInt = -10 := rfl
  rw [v9, rr]
  refine ok_ite (fun q => ok_g (decide_eq_true r1) (ok_g (decide_eq_true r2) (ok_l fun s15 e15 => ok_l fun s17 e17 => ok_l fun s19 e19 => ?_))) (fun q => ok_r ⟨⟨F8.1, F8.2.1, rfl⟩, t0, fun f p z hp => ?_, fun A G z => absurd (a2 A G z).1 q⟩)
  · have i19 : ∀ k i, ¬ (k = 155 ∧ i = 8) → s19.1 k i = s8.1 k i := fun k i z => by rw [e19, g_sI, if_neg z, e17, e15]; rfl
    have j19 : s19.2.1 = s8.2.1 := by rw [e19, e17, e15]; rfl
    have r19 : s19.2.2 = va_up (va_up s8.2.2 155 (va_up (s8.2.2 155) 6 (σ.2.2 155 7))) 155 (va_up ((va_up s8.2.2 155 (va_up (s8.2.2 155) 6 (σ.2.2 155 7))) 155) 7 (σ.2.2 155 6)) := by rw [e19, e17, e15]; rfl
    have n6 : s19.2.2 155 6 = σ.2.2 155 7 := by
      rw [r19, va_up2, if_neg (by omega), va_up2, if_pos ⟨rfl, rfl⟩]
    have n7 : s19.2.2 155 7 = σ.2.2 155 6 := by
      rw [r19, va_up2, if_pos ⟨rfl, rfl⟩]
    rw [n6]
    refine ok_g (decide_eq_true r2) (ok_r ⟨⟨fun k i z => ?_, fun k i z => ?_, rfl⟩, by rw [i19 _ _ (by omega)]; exact t0, fun f p z hp => absurd q (a1 f p z).2.1, fun A G z => ?_⟩)
    · show s19.1 k i = _
      rw [i19 k i (fun y => z (by rw [y.1, y.2]; show (4 : Nat) ∈ _; simp))]; exact F8.1 k i z
    · show s19.2.1 k i = _
      rw [j19]; exact F8.2.1 k i z
    · obtain ⟨b1, b2, b3⟩ := a2 A G z
      have i4 : ∀ k i, ¬ (k = 155) → ¬ (k = 165 ∧ i = 1) → s19.1 k i = s4.1 k i := fun k i z1 z2 => by rw [i19 k i (by omega), i8 k i (by omega) z2]
      have j4 : s19.2.1 = s4.2.1 := by rw [j19, d8]
      refine ⟨by rw [i4 _ _ (by omega) (by omega)]; exact b3, ?_, ⟨?_, ?_⟩⟩
      · unfold FaX
        rw [i19 _ _ (by omega), v9, q]; rfl
      · rw [n6, n7]; exact ⟨r2, r1, fun y => r3 y.symm⟩
      · refine Or.inr ⟨by rw [e19, g_sI_s]; decide, G, rfl, ?_⟩
        rw [n6]
        obtain ⟨A', ⟨h1, h2, h3, h4, h5, h6⟩, qq⟩ := b2
        have e1 : fitX (σ.2.2 155 7) s19 = fitX (σ.2.2 155 7) s4 := fitX_eq (fun i => i4 _ _ (by omega) (by omega)) (fun i => i4 _ _ (by omega) (by omega))
        have e2 : FlX (σ.2.2 155 7) s19 A' = FlX (σ.2.2 155 7) s4 A' := by
          funext x y
          unfold FlX
          rw [j4]
        refine ⟨A', ⟨h1, h2, by rw [i4 _ _ (by omega) (by omega)]; exact h3, fun x => by rw [j4]; exact h4 x, fun x => by rw [j4]; exact h5 x, fun x y => by rw [j4]; exact h6 x y⟩, fun sg N i j hij => ?_⟩
        rw [e1, e2, j4]
        exact qq sg N i j hij
  · obtain ⟨b1, b2, b3⟩ := a1 f p z
    have p8 : (s8.1 166 0).toInt = p := by rw [i8 _ _ (by omega) (by omega)]; exact b3
    refine ⟨by rw [z_subv k10 p8 (by omega) (by omega)], by unfold FaX; rw [v9]; exact b1, ⟨?_, ?_⟩⟩
    · rw [rr]; exact ⟨r1, r2, r3⟩
    · have e8' : s8.1 155 8 = σ.1 155 8 := by rw [i8 _ _ (by omega) (by omega)]; exact f4.1 _ _ (by omega) (by omega) (by omega) (by omega)
      rw [e8', rr]
      rcases hW with hW | ⟨h1, Lw, h2, h3⟩
      · exact Or.inl hW
      · refine Or.inr ⟨h1, Lw, h2, ?_⟩
        have h4 := h3.W r2 r3 f4
        obtain ⟨A', ⟨g1, g2, g3, g4, g5, g6⟩, qq⟩ := h4
        have e1 : fitX (σ.2.2 155 6) s8 = fitX (σ.2.2 155 6) s4 := fitX_eq (fun i => i8 _ _ (by omega) (by omega)) (fun i => i8 _ _ (by omega) (by omega))
        have e2 : FlX (σ.2.2 155 6) s8 A' = FlX (σ.2.2 155 6) s4 A' := by
          funext x y
          unfold FlX
          rw [d8]
        refine ⟨A', ⟨g1, g2, by rw [i8 _ _ (by omega) (by omega)]; exact g3, fun x => by rw [d8]; exact g4 x, fun x => by rw [d8]; exact g5 x, fun x y => by rw [d8]; exact g6 x y⟩, fun sg N i j hij => ?_⟩
        rw [e1, e2, d8]
        exact qq sg N i j hij
