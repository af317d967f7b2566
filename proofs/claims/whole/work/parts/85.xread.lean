/-! ===== the class reads a word ===== -/
def XRq (w : Nat) (o : OUT) (σ0 : SG) (v : Int32) (σ' : SG) : Prop := frW w σ0 σ' ∧ (∀ f p, o = .inl (f, p) → v.toInt = f ∧ ¬ v = 0 ∧ (σ'.1 166 0).toInt = (p : Nat)) ∧ (∀ A G, o = .inr (A, G) → v = 0 ∧ XWd G w σ' ∧ (σ'.1 (203 + w) 0).toInt = (A : Nat))
theorem x_read74 {w tc : Nat} {tb : Nat → Int} {u A aw : Nat} {rp : Bool} {lo hi : Int} {Λ : Nat → GL} {σ0 σ : SG} (hS : XS w tc tb u 0 A aw rp lo hi Λ σ) (hF : frW w σ0 σ) : uOk (m_X10_read_74 w σ) (XRq w (.inr (A, gAll (Λ 0))) σ0) := by
  obtain ⟨Γ, c0, g0, hΛ, hpq, hp0, d0, -⟩ := hS
  have hw := c0.1
  obtain ⟨p0, p1, p2, q, hΓ⟩ : ∃ p0 p1 p2 q, Γ 0 = ((p0, p1, p2, q), ((Λ 0).1, (Λ 0).2.1, (Λ 0).2.2)) := ⟨(Γ 0).1.1, (Γ 0).1.2.1, (Γ 0).1.2.2.1, (Γ 0).1.2.2.2, by rw [← hΛ 0 (Nat.le_refl _)]⟩
  have e0 : p0 = 0 := by rw [hΓ] at hp0; exact hp0
  subst e0
  have z0 : ((0 : Int32)).toNatClampNeg = 0 := rfl
  unfold m_X10_read_74
  rw [z0]
  refine ok_g rfl (ok_b (x_closeSeq c0 hΓ g0) (fun _ s28 g28 => ok_g rfl (ok_l fun s32 e32 => ok_g rfl (ok_l fun s36 e36 => ok_r ?_))))
  obtain ⟨b1, b2, b3, b4⟩ := g28
  obtain ⟨h1, h2, h3, h4, h5, h6, h7⟩ := id b2
  have hL := h5 0 (Nat.le_refl _)
  rw [ups_s] at hL
  have l1 : Prt (fitX w s28) (FlX w s28 A) 0 A (pE s28 (3 * 0)) (pF s28 (3 * 0)) (pL s28 (3 * 0)) (gAll (Λ 0)) := hL.1
  have i36 : s36.1 = s28.1 := by rw [e36, g_sJ1, e32, g_sJ1]
  have j36 : ∀ k i, ¬ (k = 203 + w ∧ (i = 1 ∨ i = 2)) → s36.2.1 k i = s28.2.1 k i := fun k i z => by rw [e36, g_sJ, if_neg (by omega), e32, g_sJ, if_neg (by omega)]
  have v1 : s36.2.1 (203 + w) 1 = s28.2.1 (176 + 3 * 0) 1 := by rw [e36, g_sJ, if_neg (by omega), e32, g_sJ, if_pos ⟨rfl, rfl⟩]
  have v2 : s36.2.1 (203 + w) 2 = s28.2.1 (176 + 3 * 0) 2 := by rw [e36, g_sJ, if_pos ⟨rfl, rfl⟩, e32, g_sJ, if_neg (by omega)]
  have FW : frW w σ s28 := b1.W (by omega)
  have efit : fitX w s36 = fitX w s28 := fitX_eq (fun i => by rw [i36]) (fun i => by rw [i36])
  have efl : FlX w s36 A = FlX w s28 A := by
    funext x y
    unfold FlX
    rw [j36 _ _ (by omega)]
  refine ⟨hF.tr (FW.tr ⟨fun k i _ _ _ _ => by rw [i36], fun k i z1 z2 z3 => j36 k i (by omega), by rw [e36, g_sJ3, e32, g_sJ3]⟩), fun f p h => (by cases h), fun A' G h => ?_⟩
  have h := Sum.inr.inj h
  have hA : A = A' := congrArg Prod.fst h
  have hG : gAll (Λ 0) = G := congrArg Prod.snd h
  subst hA hG
  refine ⟨rfl, ⟨A, ⟨hw, h2, by rw [i36]; exact h3, fun x hx => ?_, fun x hx => ?_, fun x y hx hy => ?_⟩, fun sg N i j hij => ?_⟩, by rw [i36]; exact h3⟩
  · rw [v1] at hx; exact (l1.2.2.1 x hx).2
  · rw [v2] at hx; exact (l1.2.2.2.1 x hx).2
  · rw [j36 _ _ (by omega)] at hy
    exact (l1.2.1 x y (Nat.zero_le _) hx ⟨hx, hy⟩).2
  · rw [efit, efl, v1, v2, ← l1.2.2.2.2 sg N i j]
    unfold AccG
    constructor
    · rintro (z | z)
      · exact z.2.elim
      · exact Or.inr z
    · rintro (z | z)
      · omega
      · exact Or.inr z
theorem x_readL {w tc : Nat} {tb : Nat → Int} {o : OUT} {σ0 : SG} (hB : uTB tc tb) : ∀ (n fuel u d A aw : Nat) (rp : Bool) (lo hi : Int) (Λ : Nat → GL) (σ : SG) (l3 : Int32), ARd tc tb n u d A aw rp lo hi Λ o → XS w tc tb u d A aw rp lo hi Λ σ → frW w σ0 σ → u ≤ tc → 0 ≤ l3.toInt → l3.toInt ≤ u → tc - u < fuel → uOk (m_X10_read_31 w fuel σ l3) (XRq w o σ0) := by
  have b := hB.1
  intro n
  induction n with
  | zero => intro fuel u d A aw rp lo hi Λ σ l3 h; exact h.elim
  | succ n ih =>
    intro fuel u d A aw rp lo hi Λ σ l3 h hS hF hu h3 h3' hf
    obtain ⟨pl, cd, vl, nx, hT, hK⟩ := h
    cases fuel with
    | zero => omega
    | succ fuel =>
      show uOk (m_X10_read_31_s w _ σ l3) _
      unfold m_X10_read_31_s
      have k160 : ((160 : Int32)).toInt = 160 := rfl
      have hTX : TX tc tb σ := by obtain ⟨Γ, -, -, -, -, -, -, -, -, -, -, -, -, -, t⟩ := hS; exact t
      have hn : (σ.1 166 3).toInt = u := by obtain ⟨Γ, -, -, -, -, -, -, t, -⟩ := hS; exact t
      refine ok_ite (fun q => absurd (z_lt.mp q) (by rw [k160]; omega)) (fun _ => ok_b (x_read1 hB hTX hn hu) (fun _ s16 g16 => ?_))
      obtain ⟨pl', cd', vl', nx', hT', hX⟩ := g16
      obtain ⟨e1, e2, e3, e4⟩ := hT.uniq hT'
      subst e1 e2 e3
      have hX : XTd σ s16 pl cd vl nx := ⟨hX.1, hX.2.1, hX.2.2.1, hX.2.2.2.1, hX.2.2.2.2.1, fun z => by rw [e4 z]; exact hX.2.2.2.2.2 z⟩
      have tb' := hT.b
      refine ok_b (x_take hS hX) (fun v18 s19 g19 => ?_)
      obtain ⟨f1, f2, f3, f4⟩ := g19
      have F19 : frW w σ0 s19 := hF.tr ((hX.1.W).tr f1)
      have kc : ∀ x : Int32, s19.1 166 4 = x ↔ cd = x.toInt := fun x => by rw [z_eq, f3]
      rcases f4 _ o hK with ⟨e, hv⟩ | ⟨hv, hc, d', A', aw', rp', lo', hi', Λ', hS', hK'⟩ | ⟨hv, hc, hd, hS', e⟩
      · rw [if_neg hv]
        refine ok_r ⟨F19, fun f p h => ?_, fun A G h => by rw [e] at h; cases h⟩
        rw [e] at h
        have h := Sum.inl.inj h
        exact ⟨congrArg Prod.fst h, hv, by rw [f2, ← show pl = p from congrArg Prod.snd h]⟩
      · rw [if_pos hv, if_pos (fun z => hc ((kc 0).mp z))]
        exact ok_l fun v23 e23 => ih fuel nx d' A' aw' rp' lo' hi' Λ' s19 v23 hK' hS' F19 tb'.2.2.2.1 (by rw [e23, z_add1 (by omega)]; omega) (by rw [e23, z_add1 (by omega)]; have := tb'.2.2.2.2 hc; omega) (by have := tb'.2.2.2.2 hc; omega)
      · rw [if_pos hv, if_neg (fun z => z ((kc 0).mpr hc)), e]
        subst hd
        exact x_read74 hS' F19
theorem x_begin0 {w : Nat} {σ : SG} (hw : w < 2) (h3 : (σ.1 (203 + w) 0).toInt = 0) : uOk (m_X2_begin 0 σ) (fun _ σ' => frD w 0 σ σ' ∧ CS w 0 (fun _ => ((0, 0, 0, 0), (gNo, gEps, gEps))) 0 σ' ∧ σ'.1 167 3 = 0 ∧ flg 0 σ') := by
  unfold m_X2_begin m_X2_begin_0
  refine ok_b (x_become (e := 0) (Or.inl rfl)) (fun _ s2 g2 => ok_b (x_become (e := 1) (Or.inr rfl)) (fun _ s5 g5 => ok_b (x_become (e := 1) (Or.inr rfl)) (fun _ s8 g8 => ok_l fun s10 e10 => ok_r ?_)))
  obtain ⟨a1, a2, a3, a4⟩ := g2
  obtain ⟨b1, b2, b3, b4⟩ := g5
  obtain ⟨c1, c2, c3, c4⟩ := g8
  have j10 : s10.2 = s8.2 := by rw [e10]; rfl
  have i10 : ∀ k i, ¬ (k = 167 ∧ i = 3) → s10.1 k i = s8.1 k i := fun k i z => by rw [e10, g_sI, if_neg z]
  refine ⟨⟨fun k i z1 z2 z3 z4 z5 => ?_, fun k i z1 z2 => ?_, ?_⟩, ⟨hw, by omega, by rw [i10 _ _ (by omega), c1.1 _ _ (by omega), b1.1 _ _ (by omega), a1.1 _ _ (by omega)]; exact h3, by omega, fun k hk => ?_, fun k hk => by omega, rfl⟩, by rw [e10, g_sI_s], fun o ho => ?_⟩
  · rw [i10 k i (by omega), c1.1 k i (by omega), b1.1 k i (by omega), a1.1 k i (by omega)]
  · rw [j10, c1.2.1 k i (by omega), b1.2.1 k i (by omega), a1.2.1 k i (by omega)]
  · rw [j10, c1.2.2, b1.2.2, a1.2.2]
  · rw [show k = 0 by omega]
    refine ⟨?_, ?_, ?_⟩
    · show Prt _ _ 0 0 _ _ _ gNo
      refine Prt.no.eq ?_ (fun x => ?_) (fun x => ?_) (fun _ _ _ _ => Iff.rfl)
      · unfold pE
        rw [i10 _ _ (by omega), c1.1 _ _ (by omega), b1.1 _ _ (by omega), a2]
        exact ⟨fun z => z.elim, fun z => absurd rfl z⟩
      · unfold pF
        rw [j10, c1.2.1 _ _ (by omega), b1.2.1 _ _ (by omega), a3]
        exact ⟨fun z => z.elim, fun z => absurd z b64_0⟩
      · unfold pL
        rw [j10, c1.2.1 _ _ (by omega), b1.2.1 _ _ (by omega), a4]
        exact ⟨fun z => z.elim, fun z => absurd z b64_0⟩
    · show Prt _ _ 0 0 _ _ _ gEps
      refine Prt.eps.eq ?_ (fun x => ?_) (fun x => ?_) (fun _ _ _ _ => Iff.rfl)
      · unfold pE
        rw [i10 _ _ (by omega), c1.1 _ _ (by omega), b2]
        exact ⟨fun _ => by decide, fun _ => trivial⟩
      · unfold pF
        rw [j10, c1.2.1 _ _ (by omega), b3]
        exact ⟨fun z => z.elim, fun z => absurd z b64_0⟩
      · unfold pL
        rw [j10, c1.2.1 _ _ (by omega), b4]
        exact ⟨fun z => z.elim, fun z => absurd z b64_0⟩
    · show Prt _ _ 0 0 _ _ _ gEps
      refine Prt.eps.eq ?_ (fun x => ?_) (fun x => ?_) (fun _ _ _ _ => Iff.rfl)
      · unfold pE
        rw [i10 _ _ (by omega), c2]
        exact ⟨fun _ => by decide, fun _ => trivial⟩
      · unfold pF
        rw [j10, c3]
        exact ⟨fun z => z.elim, fun z => absurd z b64_0⟩
      · unfold pL
        rw [j10, c4]
        exact ⟨fun z => z.elim, fun z => absurd z b64_0⟩
  · rw [i10 _ _ (by omega)]
    by_cases z2 : o = 3 * 0 + 2
    · rw [z2, c2]; exact Or.inr rfl
    · rw [c1.1 _ _ (by omega)]
      by_cases z1 : o = 3 * 0 + 1
      · rw [z1, b2]; exact Or.inr rfl
      · rw [b1.1 _ _ (by omega)]
        rw [show o = 3 * 0 by omega, a2]; exact Or.inl rfl
theorem x_read {w tc : Nat} {tb : Nat → Int} {n : Nat} {o : OUT} {σ : SG} (hB : uTB tc tb) (hT : TX tc tb σ) (hw : w < 2) (h : ARd tc tb n 0 0 0 0 false 0 0 (fun _ => (gNo, gEps, gEps)) o) : uOk (m_X10_read w σ) (XRq w o σ) := by
  have b := hB.1
  unfold m_X10_read m_X10_read_0
  refine ok_l fun s1 e1 => ok_l fun s3 e3 => ok_l fun s5 e5 => ok_l fun s7 e7 => ok_g rfl ?_
  have z0 : ((0 : Int32)).toNatClampNeg = 0 := rfl
  rw [z0]
  have i7 : ∀ k i, ¬ (k = 203 + w ∧ i = 0) → ¬ (k = 166 ∧ (i = 2 ∨ i = 3 ∨ i = 6)) → s7.1 k i = σ.1 k i := fun k i y1 y2 => by rw [e7, g_sI, if_neg (by omega), e5, g_sI, if_neg (by omega), e3, g_sI, if_neg (by omega), e1, g_sI, if_neg (by omega)]
  have j7 : s7.2 = σ.2 := by rw [e7, e5, e3, e1]; rfl
  refine ok_b (x_begin0 hw (by rw [e7, g_sI, if_neg (by omega), e5, g_sI, if_neg (by omega), e3, g_sI, if_neg (by omega), e1, g_sI_s]; rfl)) (fun _ s12 g12 => ?_)
  obtain ⟨f1, c1, r1, g1⟩ := g12
  have F7 : frW w σ s7 := ⟨fun k i y1 y2 y3 y4 => i7 k i y4 (by omega), fun k i _ _ _ => by rw [j7], by rw [j7]⟩
  have F : frW w σ s12 := F7.tr (f1.W (by omega))
  have k6 : ∀ i, s12.1 166 i = s7.1 166 i := fun i => f1.1 _ _ (by omega) (by omega) (by omega) (by omega) (by omega)
  refine x_readL hB n FV 0 0 0 0 false 0 0 (fun _ => (gNo, gEps, gEps)) s12 0 h ⟨_, c1, g1, fun _ _ => rfl, fun k hk => by omega, rfl, ?_, ?_, ?_, by omega, ⟨fun z => (by cases z), fun z => absurd r1 z⟩, fun z => by omega, fun z => by omega, fun z => by omega, hT.W hw F⟩ F (by omega) (by decide) (by decide) (FV_big (by omega))
  · rw [k6, e7, g_sI, if_neg (by omega), e5, g_sI_s]; rfl
  · rw [k6, e7, g_sI, if_neg (by omega), e5, g_sI, if_neg (by omega), e3, g_sI_s]; rfl
  · rw [k6, e7, g_sI_s]; rfl
