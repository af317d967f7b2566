/-! ===== find: what it finds; the class ===== -/
noncomputable def lng (Lw : LG) (sg : Nat → Int) (N p : Nat) : Nat := Classical.epsilon (fun m => lgst Lw sg N p m)
theorem lng_eq {Lw : LG} {sg : Nat → Int} {N p m : Nat} (h : lgst Lw sg N p m) : lng Lw sg N p = m := lgst.uniq (Classical.epsilon_spec ⟨m, h⟩) h
def frow (μ : Nat → Nat → Nat) (t p : Nat) (kv : Nat × (Nat → Nat → Int)) : Nat × (Nat → Nat → Int) := if 0 < μ t p then (kv.1 + 1, insV kv.2 (row5 t p (μ t p) 0 0) kv.1) else kv
def fpl (μ : Nat → Nat → Nat) (t : Nat) : Nat → Nat × (Nat → Nat → Int) → Nat × (Nat → Nat → Int)
  | 0, kv => kv
  | p + 1, kv => frow μ t p (fpl μ t p kv)
def ftu (μ : Nat → Nat → Nat) (NN : Nat → Nat) : Nat → Nat × (Nat → Nat → Int)
  | 0 => (0, fun _ _ => 0)
  | t + 1 => fpl μ t (NN t) (ftu μ NN t)
theorem fpl_b {μ : Nat → Nat → Nat} {t : Nat} {kv : Nat × (Nat → Nat → Int)} : ∀ p, (fpl μ t p kv).1 ≤ kv.1 + p
  | 0 => Nat.le_refl _
  | p + 1 => by
    have ih := fpl_b (μ := μ) (t := t) (kv := kv) p
    show (frow μ t p (fpl μ t p kv)).1 ≤ _
    unfold frow
    split
    · show (fpl μ t p kv).1 + 1 ≤ _
      omega
    · omega
theorem ftu_b {μ : Nat → Nat → Nat} {NN : Nat → Nat} (hc : ∀ r, r < 8 → NN r ≤ 24) : ∀ t, t ≤ 8 → (ftu μ NN t).1 ≤ 24 * t
  | 0, _ => Nat.le_refl _
  | t + 1, q => by
    have ih := ftu_b (μ := μ) hc t (by omega)
    have h := fpl_b (μ := μ) (t := t) (kv := ftu μ NN t) (NN t)
    have := hc t (by omega)
    show (fpl μ t (NN t) (ftu μ NN t)).1 ≤ _
    omega
noncomputable def fmu (Lw : LG) (c : Nat → Nat) (P L : Nat → Nat → Int) (view : Nat) : Nat → Nat → Nat := fun t p => lng Lw (sgs (P t) (L t) view) (c t - two view) p
/-- the class's word, if there is one -/
def XWS (ow : Option LG) (σ : SG) : Prop := (σ.2.2 155 6 < 2 ∧ σ.2.2 155 7 < 2 ∧ σ.2.2 155 6 ≠ σ.2.2 155 7) ∧ ((σ.1 155 8 = 0 ∧ ow = none) ∨ (¬ σ.1 155 8 = 0 ∧ ∃ Lw, ow = some Lw ∧ XWd Lw (σ.2.2 155 6) σ))
theorem XWS.fr {ow : Option LG} {G : List Nat} {σ σ' : SG} (h : XWS ow σ) (f : frX G σ σ') (q : 4 ∉ G) : XWS ow σ' := by
  obtain ⟨h1, h2⟩ := h
  have e : σ'.2.2 = σ.2.2 := f.2.2
  have e8 : σ'.1 155 8 = σ.1 155 8 := f.1 155 8 q
  refine ⟨by rw [e]; exact h1, ?_⟩
  rw [e8, e]
  rcases h2 with h2 | ⟨h2, Lw, h3, h4⟩
  · exact Or.inl h2
  · exact Or.inr ⟨h2, Lw, h3, h4.fr f q⟩
theorem x_fit27 {Lw : LG} {w A : Nat} {sg : Nat → Int} {N t : Nat} {μ : Nat → Nat → Nat} {l1 : Int32} {kv : Nat × (Nat → Nat → Int)} (hμ : ∀ p, p < N → μ t p = lng Lw sg N p) (hN : N ≤ 24) (h1 : l1.toInt = t) (hkv : kv.1 + 24 ≤ 199) :
    ∀ (d fuel p : Nat) (σ : SG) (l3 : Int32), d < fuel → p + d = N → XWa w A σ → (∀ i j, i < j → (AccG (fitX w σ) (FlX w σ A) False (b64 (σ.2.1 (203 + w) 1)) (b64 (σ.2.1 (203 + w) 2)) sg N i j ↔ Lw sg N i j)) → XFt w A sg N σ → XSg sg N σ → σ.2.2 155 6 = w → l3.toInt = p → FdX (fpl μ t p kv).1 (fpl μ t p kv).2 σ → uOk (m_X11_findInTune_27 fuel σ l1 l3) (fun _ σ' => frX [5] σ σ' ∧ FdX (fpl μ t N kv).1 (fpl μ t N kv).2 σ') := by
  have k0 : ((0 : Int32)).toInt = 0 := rfl
  intro d
  induction d with
  | zero =>
    intro fuel p σ l3 hf hr hW hL hT hS hw h3 hF
    cases fuel with
    | zero => omega
    | succ fuel =>
      show uOk (m_X11_findInTune_27_s _ σ l1 l3) _
      unfold m_X11_findInTune_27_s
      exact ok_ite (fun _ => ok_r ⟨frX.rf, by rw [show N = p by omega]; exact hF⟩) (fun q => absurd (z_le.mpr (by rw [hS.2.1, h3]; omega)) q)
  | succ d ih =>
    intro fuel p σ l3 hf hr hW hL hT hS hw h3 hF
    cases fuel with
    | zero => omega
    | succ fuel =>
      show uOk (m_X11_findInTune_27_s _ σ l1 l3) _
      unfold m_X11_findInTune_27_s
      rw [hw]
      have hb := fpl_b (μ := μ) (t := t) (kv := kv) p
      have nxt : ∀ σ', frX [5] σ σ' → FdX (fpl μ t (p + 1) kv).1 (fpl μ t (p + 1) kv).2 σ' → uOk (m_X11_findInTune_66 (m_X11_findInTune_27 fuel) σ' l1 l3) (fun _ σ' => frX [5] σ σ' ∧ FdX (fpl μ t N kv).1 (fpl μ t N kv).2 σ') := fun σ' hf5 hfd => by
        unfold m_X11_findInTune_66
        obtain ⟨a1, a2, a3, a4, a5⟩ := hW.fr hf5 (by decide)
        have g := fun i => @rgX_w w i hW.1
        refine ok_l fun v ev => (ih fuel (p + 1) σ' v (by omega) (by omega) a1 (fun i j hij => ?_) ⟨?_, fun k hk x => ?_⟩ ⟨hS.1, ?_, fun k hk => ?_⟩ (by rw [hf5.2.2]; exact hw) (by rw [ev, z_add1 (by omega), h3]; rfl) hfd).mono (fun _ s h => ⟨hf5.tr h.1, h.2⟩)
        · rw [← hL i j hij, a4, a5]
          unfold AccG
          simp only [Rp.eq a2 a3]
        · rw [hf5.1 _ _ (by rw [(g 0).2.2.2.1]; decide)]; exact hT.1
        · rw [hf5.2.1 _ _ (by rw [(g k).2.2.2.2.2.1]; decide), a2]; exact hT.2 k hk x
        · rw [hf5.1 205 1 (by show (8 : Nat) ∉ _; decide)]; exact hS.2.1
        · rw [hf5.1 20 k (by show (8 : Nat) ∉ _; decide)]; exact hS.2.2 k hk
      refine ok_ite (fun q => absurd (z_le.mp q) (by rw [hS.2.1, h3]; omega)) (fun _ => ok_g (decide_eq_true hW.1) (ok_b (x_longestFrom hW hL hT hN (by omega : p < N) h3) (fun v15 s16 h15 => ?_)))
      obtain ⟨rfl, m, hm, hl⟩ := h15
      have hmu : μ t p = m := by rw [hμ p (by omega), lng_eq hl]
      have hmN := hl.1
      refine ok_ite (fun q => nxt s16 frX.rf ?_) (fun q => ok_b (x_add (k := (fpl μ t p kv).1) (by omega) hF) (fun _ s20 h20 => nxt s20 h20.2 ?_))
      · rw [z_le, hm, k0] at q
        show FdX (frow μ t p (fpl μ t p kv)).1 (frow μ t p (fpl μ t p kv)).2 s16
        unfold frow
        rw [if_neg (by omega)]
        exact hF
      · rw [z_le, hm, k0] at q
        show FdX (frow μ t p (fpl μ t p kv)).1 (frow μ t p (fpl μ t p kv)).2 s20
        unfold frow
        rw [if_pos (by omega), hmu]
        have h := h20.1
        rw [h1, h3, hm, k0] at h
        exact h
theorem x_find31 {n : Nat} {c : Nat → Nat} {P L : Nat → Nat → Int} {Lw : LG} {view : Nat} {l1 : Int32} (hB : NB n c P L) (h5 : view < 5) (h1 : l1.toInt = view) :
    ∀ (d fuel t : Nat) (σ : SG) (l2 : Int32), d < fuel → t + d = n → uNX n c P L σ → XWS (some Lw) σ → l2.toInt = t → FdX (ftu (fmu Lw c P L view) (fun t => c t - two view) t).1 (ftu (fmu Lw c P L view) (fun t => c t - two view) t).2 σ → uOk (m_X11_find_31 fuel σ l1 l2) (fun v σ' => v.toInt = (ftu (fmu Lw c P L view) (fun t => c t - two view) n).1 ∧ frX [8, 5] σ σ' ∧ FdX (ftu (fmu Lw c P L view) (fun t => c t - two view) n).1 (ftu (fmu Lw c P L view) (fun t => c t - two view) n).2 σ') := by
  have hn := hB.1
  have hc : ∀ r, r < 8 → c r ≤ 24 := fun r hr => by have := hB.2.1 r (by omega); unfold rcap at this; rw [if_neg (by omega)] at this; exact this
  intro d
  induction d with
  | zero =>
    intro fuel t σ l2 hf hr hX hW h2 hF
    cases fuel with
    | zero => omega
    | succ fuel =>
      show uOk (m_X11_find_31_s _ σ l1 l2) _
      unfold m_X11_find_31_s
      exact ok_ite (fun _ => ok_r (by rw [show n = t by omega]; exact ⟨hF.1, frX.rf, hF⟩)) (fun q => absurd (z_le.mpr (by rw [hX.1, h2]; omega)) q)
  | succ d ih =>
    intro fuel t σ l2 hf hr hX hW h2 hF
    cases fuel with
    | zero => omega
    | succ fuel =>
      show uOk (m_X11_find_31_s _ σ l1 l2) _
      unfold m_X11_find_31_s
      have hct := hc t (by omega)
      have hb := ftu_b (μ := fmu Lw c P L view) (NN := fun t => c t - two view) (fun r hr => by have := hc r hr; show c r - two view ≤ 24; omega) t (by omega)
      have hrow : rowB (P t) (L t) (c t) := fun j hj => hB.2.2.2 t j (by omega) hj
      refine ok_ite (fun q => absurd (z_le.mp q) (by rw [hX.1, h2]; omega)) (fun _ => ok_b (Q := fun _ σ' => frX [8, 5] σ σ' ∧ FdX (ftu (fmu Lw c P L view) (fun t => c t - two view) (t + 1)).1 (ftu (fmu Lw c P L view) (fun t => c t - two view) (t + 1)).2 σ') ?_ (fun _ s8 h8 => ok_l fun v ev => ?_))
      · unfold m_X11_findInTune m_X11_findInTune_0
        rw [z_nv h2]
        refine ok_i (by omega) (ok_b (x_look (r := t) (p := P t) (l := L t) (m := c t) ⟨by omega, hct, hX.2.1 t (by omega), fun j hj => hX.2.2 t j (by omega) hj⟩ hrow h1 h5) (fun _ s5 h5' => ?_))
        obtain ⟨⟨w1, w2, w3⟩, w4⟩ := hW.fr h5'.1 (by decide)
        rcases w4 with ⟨-, w4⟩ | ⟨-, Lw', w4, A, w5, w6⟩
        · cases w4
        · cases w4
          have hlt : s5.2.2 155 6 < 2 := w1
          refine ok_g (decide_eq_true hlt) (ok_b (Q := fun _ σ' => frX [8] s5 σ' ∧ XFt (s5.2.2 155 6) A (sgs (P t) (L t) view) (c t - two view) σ' ∧ XSg (sgs (P t) (L t) view) (c t - two view) σ') ?_ (fun _ s10 h10 => ?_))
          · unfold m_X9_hold m_X9_hold_0
            refine ok_l fun s1 e1 => ?_
            have g := @rgX_w (s5.2.2 155 6) 0 hlt
            have hF1 : frX [8] s5 s1 := by rw [e1]; exact frX.rf.sI (by rw [g.2.2.2.1]; decide)
            obtain ⟨a1, -⟩ := w5.fr hF1 (by decide)
            have hS1 : XSg (sgs (P t) (L t) view) (c t - two view) s1 := ⟨h5'.2.1, by rw [e1, g_sI, if_neg (by omega)]; exact h5'.2.2.1, fun k hk => by rw [e1, g_sI, if_neg (by omega)]; exact h5'.2.2.2 k hk⟩
            exact (x_hold (c t - two view) FV 0 s1 0 (FV_big (by omega)) (by omega) a1 hS1 rfl (by rw [e1, g_sI_s]; exact h5'.2.2.1) (fun j hj => by omega)).mono (fun _ s h => ⟨hF1.tr h.1, h.2⟩)
          · obtain ⟨a1, a2, a3, a4, a5⟩ := w5.fr h10.1 (by decide)
            have hF10 : frX [8, 5] σ s10 := (h5'.1.tr h10.1).wk (by simp)
            refine (x_fit27 (Lw := Lw) (μ := fmu Lw c P L view) (sg := sgs (P t) (L t) view) (kv := ftu (fmu Lw c P L view) (fun t => c t - two view) t) (fun p _ => rfl) (by omega) h2 (by omega) (c t - two view) FV 0 s10 0 (FV_big (by omega)) (by omega) a1 (fun i j hij => ?_) h10.2.1 h10.2.2 (by rw [h10.1.2.2]) rfl (hF.fr (h5'.1.tr h10.1) (by decide))).mono (fun _ s h => ⟨hF10.tr (h.1.wk (by simp)), h.2⟩)
            rw [← w6 _ _ i j hij, a4, a5]
            unfold AccG
            simp only [Rp.eq a2 a3]
      · exact (ih fuel (t + 1) s8 v (by omega) (by omega) (hX.fr h8.1 (by decide)) (hW.fr h8.1 (by decide)) (by rw [ev, z_add1 (by omega), h2]; rfl) h8.2).mono (fun _ s h => ⟨h.1, h8.1.tr h.2.1, h.2.2⟩)
noncomputable def pFind (n : Nat) (c : Nat → Nat) (P L : Nat → Nat → Int) (ow : Option LG) (k : Nat) (v : Nat → Nat → Int) (view : Int) : Int × Nat × (Nat → Nat → Int) :=
  if view < 0 ∨ 4 < view then (-2, k, v) else match ow with
    | none => (0, 0, fun _ _ => 0)
    | some Lw => ((ftu (fmu Lw c P L view.toNat) (fun t => c t - two view.toNat) n).1, ftu (fmu Lw c P L view.toNat) (fun t => c t - two view.toNat) n)
theorem x_find {n : Nat} {c : Nat → Nat} {P L : Nat → Nat → Int} {ow : Option LG} {k : Nat} {v : Nat → Nat → Int} {σ : SG} {p0 : Int32} (hB : NB n c P L) (hX : uNX n c P L σ) (hW : XWS ow σ) (hF : FdX k v σ) : uOk (m_X11_find σ p0) (fun r σ' => r.toInt = (pFind n c P L ow k v p0.toInt).1 ∧ FdX (pFind n c P L ow k v p0.toInt).2.1 (pFind n c P L ow k v p0.toInt).2.2 σ' ∧ frX [8, 5] σ σ') := by
  have k0 : ((0 : Int32)).toInt = 0 := rfl
  have k5 : ((5 : Int32)).toInt = 5 := rfl
  have hn := hB.1
  unfold m_X11_find m_X11_find_0 pFind
  refine ok_ite (fun q => ok_r ?_) (fun q1 => ok_ite (fun q2 => ok_l fun s e => ?_) (fun q => ok_r ?_))
  · rw [z_lt, k0] at q; rw [if_pos (Or.inl q)]; exact ⟨rfl, hF, frX.rf⟩
  · rw [z_lt, k0] at q1
    rw [z_lt, k5] at q2
    rw [if_neg (show ¬ (p0.toInt < 0 ∨ 4 < p0.toInt) by omega)]
    have hF0 : frX [8, 5] σ s := by rw [e]; exact frX.rf.sI (by show (5 : Nat) ∈ _; decide)
    have hFd : FdX 0 (fun _ _ => 0) s := ⟨by rw [e, g_sI_s]; rfl, fun j hj => absurd hj (Nat.not_lt_zero j)⟩
    have hW1 := hW.fr hF0 (by decide)
    refine ok_ite (fun q => ?_) (fun q => ok_r ?_)
    · rcases hW1.2 with h | ⟨-, Lw, rfl, -⟩
      · exact absurd h.1 q
      · refine (x_find31 (Lw := Lw) (view := p0.toInt.toNat) hB (by omega) (by omega) n FV 0 s 0 (FV_big (by omega)) (by omega) (hX.fr hF0 (by decide)) hW1 rfl hFd).mono (fun r s' h => ⟨h.1, h.2.2, hF0.tr h.2.1⟩)
    · rcases hW1.2 with ⟨-, rfl⟩ | ⟨h, -⟩
      · exact ⟨rfl, hFd, hF0⟩
      · exact absurd h q
  · rw [z_lt, k5] at q; rw [if_pos (Or.inr (by omega))]; exact ⟨rfl, hF, frX.rf⟩
