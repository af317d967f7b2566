/-! ===== the class's near ===== -/
theorem rgX_25 {k i : Nat} (h : 25 ≤ k) (h2 : k < 27) : rgX k i = 9 := by unfold rgX; grind
theorem fr1.w25 {σ σ' : SG} (h : fr1 25 27 σ σ') : frX [9] σ σ' := h.X (fun k i h1 h2 => by rw [rgX_25 h1 h2]; decide)
/-- the state in seekEnds: rows, fields of the ways, the ends against their bests -/
def uSE (n : Nat) (c : Nat → Nat) (P L : Nat → Nat → Int) (K : Nat → Int) (t : Nat) (M : Int) (b : Nat → Int × Int) (σ : SG) : Prop := WXd (wd c P L K 8 t 0) 8 t (lim9 M) σ ∧ ∀ e, e ≤ c t → uclB M (b e) (Yc σ e) (Ys σ e)
theorem x_seekBy {n : Nat} {c : Nat → Nat} {P L : Nat → Nat → Int} {K : Nat → Int} {t : Nat} {M : Int} {b : Nat → Int × Int} {σ : SG} {p2 : Int32} (hB : NB n c P L) (hK : KB K) (ht : t < 8) (hM : 0 ≤ M ∧ M ≤ 768000) (s1 : -24 ≤ p2.toInt) (s2 : p2.toInt ≤ 24) (hS : uSE n c P L K t M b σ) :
    uOk (m_X8_seekEndsBy 8 t σ p2) (fun _ σ' => frX [9] σ σ' ∧ uSE n c P L K t M (fun e => bstep (fun s => umu c P L K t s e) (b e) p2.toInt) σ') := by
  have hW := wd_B (x := 8) (y := t) (s := p2.toInt) hB hK (by omega) (by omega) s1 s2
  have hW1 : WXd (wd c P L K 8 t p2.toInt) 8 t (lim9 M) σ := hS.1
  have h24 : c t ≤ 24 := hW.2.1
  unfold m_X8_seekEndsBy m_X8_seekEndsBy_0
  refine ok_b (x_clear hW hW1) (fun _ s1' h1 => ?_)
  have hWs := hW1.fr h1.1 (by omega) (by omega)
  refine x_sb9 (σ := σ) (lim := lim9 M) hW rfl h24 (fun σ' hW2 hF2 hG => ?_) (c t + 1) FV 0 s1' 0 (FV_big (by omega)) (by show 0 + (c t + 1) = c t + 1; omega) hWs h1.1 rfl (fun x y hx hy => by rw [if_neg (by omega)]; exact h1.2 x y hx hy)
  have hy : ∀ y, Yc σ' y = Yc σ y ∧ Ys σ' y = Ys σ y := fun y => by unfold Yc Ys; rw [hF2.1 _ _ (by omega), hF2.1 _ _ (by omega)]; exact ⟨rfl, rfl⟩
  refine (x_sb48 (l3 := p2) hW σ (c t + 1) FV 0 σ' 0 (FV_big (by omega)) (by show 0 + (c t + 1) = c t + 1; omega) hW2 rfl hG (fun y hy => (hS.2 y hy).1) (fun y _ _ => hy y) (fun y h => by omega)).mono (fun _ σ2 h => ⟨(hF2.w).tr h.1.w25, hW2.fr h.1 (by omega) (by omega), fun e he => ?_⟩)
  obtain ⟨a1, a2, a3⟩ := h.2.1 (c 8) e (Nat.le_refl _) he
  obtain ⟨m1, m2, m3⟩ := mu_ok (s := p2.toInt) hB hK ht s1 s2 he
  have hv := h.2.2 e he
  rw [hv.1, hv.2]
  refine (hS.2 e he).step hM.2 a1 ?_ (fun q => ?_) m2
  · rcases a2 with a2 | a2
    · exact Or.inl a2
    · exact Or.inr (m1.2 _ a2)
  · have q : umu c P L K t p2.toInt e / 32 ≤ M := q
    have h3 := a3 _ m1.1 (by unfold lim9; rw [if_neg (by omega)]; omega)
    rcases a2 with a2 | a2
    · have a2 : Xv σ2 (c 8) e = 2147483647 := a2
      have h3 : Xv σ2 (c 8) e ≤ umu c P L K t p2.toInt e := h3
      omega
    · exact Int.le_antisymm h3 (m1.2 _ a2)
theorem z_negv {a : Int32} {x : Int} (ha : a.toInt = x) (h : -2147483648 < x) : (-a).toInt = -x := by
  have := z_hi a
  rw [Int32.toInt_neg, ha, z_bmod (by omega) (by omega)]
theorem x_seek30 {n : Nat} {c : Nat → Nat} {P L : Nat → Nat → Int} {K : Nat → Int} {t : Nat} {M : Int} {S : Nat} {l4 : Int32} (hB : NB n c P L) (hK : KB K) (ht : t < 8) (hM : 0 ≤ M ∧ M ≤ 768000) (hS : S ≤ 24) (h4 : l4.toInt = S) :
    ∀ (r fuel w : Nat) (σ : SG) (l6 : Int32), r < fuel → w + r = S → l6.toInt = w + 1 → uSE n c P L K t M (fun e => bw (fun s => umu c P L K t s e) w) σ → uOk (m_X8_seekEnds_30 8 t fuel σ l4 l6) (fun _ σ' => frX [9] σ σ' ∧ uSE n c P L K t M (fun e => bw (fun s => umu c P L K t s e) S) σ') := by
  have k0 : ((0 : Int32)).toInt = 0 := rfl
  intro r
  induction r with
  | zero =>
    intro fuel w σ l6 hf hr h6 hE
    cases fuel with
    | zero => omega
    | succ fuel =>
      show uOk (m_X8_seekEnds_30_s 8 t _ σ l4 l6) _
      unfold m_X8_seekEnds_30_s
      exact ok_ite (fun _ => ok_r ⟨frX.rf, by rw [show S = w by omega]; exact hE⟩) (fun q => absurd (z_lt.mpr (by rw [h4, h6]; omega)) q)
  | succ r ih =>
    intro fuel w σ l6 hf hr h6 hE
    cases fuel with
    | zero => omega
    | succ fuel =>
      show uOk (m_X8_seekEnds_30_s 8 t _ σ l4 l6) _
      unfold m_X8_seekEnds_30_s
      have hn : (-l6).toInt = -((w : Int) + 1) := z_negv h6 (by omega)
      refine ok_ite (fun q => absurd (z_lt.mp q) (by rw [h4, h6]; omega)) (fun _ => ok_b (x_seekBy hB hK ht hM (by rw [hn]; omega) (by rw [hn]; omega) hE) (fun _ s1 h1 => ok_ite (fun q => absurd (z_le.mp q) (by rw [h6, k0]; omega)) (fun _ => ok_b (x_seekBy hB hK ht hM (by rw [h6]; omega) (by rw [h6]; omega) h1.2) (fun _ s2 h2 => ?_))))
      unfold m_X8_seekEnds_59
      refine ok_l fun v ev => (ih fuel (w + 1) s2 v (by omega) (by omega) (by rw [ev, z_add1 (by omega), h6]; omega) ?_).mono (fun _ s3 h3 => ⟨(h1.1.tr h2.1).tr h3.1, h3.2⟩)
      have h := h2.2
      rw [hn, h6] at h
      exact h
theorem x_seek {n : Nat} {c : Nat → Nat} {P L : Nat → Nat → Int} {K : Nat → Int} {t S : Nat} {σ : SG} {p3 p4 : Int32} (hB : NB n c P L) (hK : KB K) (hX : uNX n c P L σ) (hKX : KX K σ) (ht : t < 8) (hS : S ≤ 24) (h3 : p3.toInt = S) (h4 : 0 ≤ p4.toInt) :
    uOk (m_X8_seekEnds 8 t σ p3 p4) (fun _ σ' => frX [9] σ σ' ∧ ∀ e, e ≤ c t → 0 ≤ Yc σ' e ∧ ((bw (fun s => umu c P L K t s e) S).1 / 32 ≤ p4.toInt → Yc σ' e = (bw (fun s => umu c P L K t s e) S).1 ∧ Ys σ' e = (bw (fun s => umu c P L K t s e) S).2) ∧ (p4.toInt < (bw (fun s => umu c P L K t s e) S).1 / 32 → p4.toInt < Yc σ' e / 32)) := by
  have k0 : ((0 : Int32)).toInt = 0 := rfl
  have n2 : (2 : Int32).toNatClampNeg = 2 := rfl
  have hW := wd_B (x := 8) (y := t) (s := 0) hB hK (by omega) (by omega) (by omega) (by omega)
  have h12 : c 8 ≤ 12 := hB.2.1 8 (by omega)
  have hA0 := wlas_b hW (i := 0) (c 8) (by show 0 + c 8 ≤ c 8; omega)
  have hK2 := hK 2 (by omega)
  have hA := mul_b hK2.1 hK2.2 hA0.1 (show wlas (wd c P L K 8 t 0) 0 (c 8) ≤ 768 by omega)
  unfold m_X8_seekEnds m_X8_seekEnds_0
  rw [n2]
  refine ok_i ⟨by decide, by decide⟩ (ok_b (Q := fun v σ' => σ' = σ ∧ v.toInt = wlas (wd c P L K 8 t 0) 0 (c 8)) ?_ (fun v2 s3 hv => ok_l fun v5 e5 => ?_))
  · unfold m_X4_lengthOfAll m_X4_lengthOfAll_0
    exact x_lenAll hB hX rfl rfl hW (c 8) FV 0 0 0 (FV_big (by omega)) (by omega) rfl rfl
  obtain ⟨rfl, hv⟩ := hv
  have hp : (s3.1 18 2 * v2).toInt = K 2 * wlas (wd c P L K 8 t 0) 0 (c 8) := z_mulv (hKX 2 (by omega)) hv (by omega) (by omega)
  have h5 : v5.toInt = if K 2 * wlas (wd c P L K 8 t 0) 0 (c 8) < p4.toInt then K 2 * wlas (wd c P L K 8 t 0) 0 (c 8) else p4.toInt := by rw [e5]; exact z_minv hp rfl
  have hM : 0 ≤ v5.toInt ∧ v5.toInt ≤ 768000 := by rw [h5]; split <;> omega
  refine ok_b (x_begin (x := 8) (y := t) (s := 0) hB hK hX hKX (by omega) (by omega) hM.1) (fun _ s8 h8 => ok_b (Q := fun _ σ' => fr1 25 26 s8 σ' ∧ ∀ j, j < 25 → σ'.1 25 j = 2147483647) ?_ (fun _ s11 h11 => ?_))
  · unfold m_J7_fill_53178 m_J7_fill_53178_0
    exact ok_l fun v1 e1 => x_fill25 25 FV 0 s8 2147483647 0 v1 (FV_big (by omega)) (by omega) rfl (by rw [e1]; rfl) (fun j hj => by omega)
  have hF11 : frX [9] s3 s11 := (h8.1.w206).tr ((show fr1 25 27 s8 s11 from ⟨fun k i z => h11.1.1 k i (by omega), h11.1.2⟩).w25)
  have hW11 := h8.2.fr h11.1 (by omega) (by omega)
  have hE0 : uSE n c P L K t v5.toInt (fun _ => (2147483647, 0)) s11 := ⟨hW11, fun e he => by
    have h24 : c t ≤ 24 := hW.2.1
    have : Yc s11 e = 2147483647 := by unfold Yc; rw [h11.2 e (by omega)]; rfl
    unfold uclB
    rw [this]
    exact ⟨by decide, fun q => by have q : (2147483647 : Int) / 32 ≤ v5.toInt := q; omega, fun _ => by omega⟩⟩
  -- the first shift is 0
  have go : uOk (m_X8_seekEnds_30 8 t FV s11 p3 0) (fun _ σ' => frX [9] s11 σ' ∧ uSE n c P L K t v5.toInt (fun e => bw (fun s => umu c P L K t s e) S) σ') := by
    show uOk (m_X8_seekEnds_30_s 8 t (m_X8_seekEnds_30 8 t (FV - 1)) s11 p3 0) _
    unfold m_X8_seekEnds_30_s
    have hn : (-(0 : Int32)).toInt = 0 := rfl
    refine ok_ite (fun q => absurd (z_lt.mp q) (by rw [h3, k0]; omega)) (fun _ => ok_b (x_seekBy hB hK ht hM (by rw [hn]; omega) (by rw [hn]; omega) hE0) (fun _ s1 h1 => ok_ite (fun _ => ?_) (fun q => absurd (z_le.mpr (by decide)) q)))
    unfold m_X8_seekEnds_59
    refine ok_l fun v ev => (x_seek30 hB hK ht hM hS h3 S (FV - 1) 0 s1 v (by have : FV = 1000000000000000000000000000000 := rfl; omega) (by omega) (by rw [ev]; rfl) ?_).mono (fun _ s2 h2 => ⟨h1.1.tr h2.1, h2.2⟩)
    have h := h1.2
    rw [hn] at h
    exact h
  refine go.mono (fun _ σ' h => ⟨hF11.tr h.1, fun e he => ?_⟩)
  obtain ⟨a0, a1, a2⟩ := h.2.2 e he
  have hb : (bw (fun s => umu c P L K t s e) S).1 / 32 ≤ K 2 * wlas (wd c P L K 8 t 0) 0 (c 8) := by
    have h0 : ∀ w, w ≤ 24 → (bw (fun s => umu c P L K t s e) w).1 / 32 ≤ K 2 * wlas (wd c P L K 8 t 0) 0 (c 8) := by
      intro w
      induction w with
      | zero =>
        intro _
        have := (mu_ok (s := 0) hB hK ht (by omega) (by omega) he).2
        show (bstep (fun s => umu c P L K t s e) (2147483647, 0) 0).1 / 32 ≤ _
        unfold bstep
        have h9 := this.2
        split
        · exact h9
        · rename_i q
          have q : ¬ umu c P L K t 0 e / 32 < 2147483647 / 32 := q
          omega
      | succ w ih =>
        intro hw
        have h1 := ih (by omega)
        show (bstep (fun s => umu c P L K t s e) (bstep (fun s => umu c P L K t s e) (bw (fun s => umu c P L K t s e) w) (-((w : Int) + 1))) ((w : Int) + 1)).1 / 32 ≤ _
        have st : ∀ (b : Int × Int) (s : Int), b.1 / 32 ≤ K 2 * wlas (wd c P L K 8 t 0) 0 (c 8) → (bstep (fun s => umu c P L K t s e) b s).1 / 32 ≤ K 2 * wlas (wd c P L K 8 t 0) 0 (c 8) := fun b s hb => by
          unfold bstep
          split
          · rename_i q
            show umu c P L K t s e / 32 ≤ _
            have q : umu c P L K t s e / 32 < b.1 / 32 := q
            omega
          · exact hb
        exact st _ _ (st _ _ h1)
    exact h0 S hS
  refine ⟨a0, fun q => a1 (by rw [h5]; split <;> omega), fun q => ?_⟩
  have := a2 (by rw [h5]; split <;> omega)
  rw [h5] at this
  split at this
  · omega
  · exact this
theorem z_rem32 {a : Int32} (h : 0 ≤ a.toInt) : (24 - (a - a / 32 * 32)).toInt = 24 - a.toInt % 32 := by
  have := z_hi a
  have k24 : ((24 : Int32)).toInt = 24 := rfl
  have k32 : ((32 : Int32)).toInt = 32 := rfl
  have d := z_div32 h
  rw [z_subv k24 (z_subv rfl (z_mulv d k32 (by omega) (by omega)) (by omega) (by omega)) (by omega) (by omega)]
  omega
theorem x_addEnds {n : Nat} {c : Nat → Nat} {P L : Nat → Nat → Int} {K : Nat → Int} {t S : Nat} {l1 l2 : Int32} {kv : Nat × (Nat → Nat → Int)} (hB : NB n c P L) (ht : t < n) (h1 : l1.toInt = t) (h2 : 0 ≤ l2.toInt) (hkv : kv.1 + 25 ≤ 200) :
    ∀ (r fuel e : Nat) (σ : SG) (l3 : Int32), r < fuel → e + r = c t + 1 → uNX n c P L σ → l3.toInt = e → (∀ e, e ≤ c t → 0 ≤ Yc σ e ∧ ((bw (fun s => umu c P L K t s e) S).1 / 32 ≤ l2.toInt → Yc σ e = (bw (fun s => umu c P L K t s e) S).1 ∧ Ys σ e = (bw (fun s => umu c P L K t s e) S).2) ∧ (l2.toInt < (bw (fun s => umu c P L K t s e) S).1 / 32 → l2.toInt < Yc σ e / 32)) → FdX (nends (umu c P L K) S l2.toInt t e kv).1 (nends (umu c P L K) S l2.toInt t e kv).2 σ →
      uOk (m_X11_addEnds_2 fuel σ l1 l2 l3) (fun _ σ' => frX [5] σ σ' ∧ FdX (nends (umu c P L K) S l2.toInt t (c t + 1) kv).1 (nends (umu c P L K) S l2.toInt t (c t + 1) kv).2 σ') := by
  have hn := hB.1
  have h24 : c t ≤ 24 := by have := hB.2.1 t (by omega); unfold rcap at this; split at this <;> omega
  intro r
  induction r with
  | zero =>
    intro fuel e σ l3 hf hr hX h3 hY hF
    cases fuel with
    | zero => omega
    | succ fuel =>
      show uOk (m_X11_addEnds_2_s _ σ l1 l2 l3) _
      unfold m_X11_addEnds_2_s
      rw [z_nv h1]
      exact ok_i (by omega) (ok_ite (fun _ => ok_r ⟨frX.rf, by rw [show c t + 1 = e by omega]; exact hF⟩) (fun q => absurd (z_lt.mpr (by rw [hX.2.1 t (by omega), h3]; omega)) q))
  | succ r ih =>
    intro fuel e σ l3 hf hr hX h3 hY hF
    cases fuel with
    | zero => omega
    | succ fuel =>
      show uOk (m_X11_addEnds_2_s _ σ l1 l2 l3) _
      unfold m_X11_addEnds_2_s
      rw [z_nv h1]
      obtain ⟨y0, y1, y2⟩ := hY e (by omega)
      have yc : (σ.1 25 e).toInt = Yc σ e := rfl
      have hd : (σ.1 25 e / 32).toInt = Yc σ e / 32 := z_div32 y0
      have hb := nends_b (μ := umu c P L K) (S := S) (most := l2.toInt) (t := t) (kv := kv) e
      have nxt : ∀ σ', frX [5] σ σ' → FdX (nends (umu c P L K) S l2.toInt t (e + 1) kv).1 (nends (umu c P L K) S l2.toInt t (e + 1) kv).2 σ' → uOk (m_X11_addEnds_58 (m_X11_addEnds_2 fuel) σ' l1 l2 l3) (fun _ σ' => frX [5] σ σ' ∧ FdX (nends (umu c P L K) S l2.toInt t (c t + 1) kv).1 (nends (umu c P L K) S l2.toInt t (c t + 1) kv).2 σ') := fun σ' hf5 hfd => by
        unfold m_X11_addEnds_58
        refine ok_l fun v ev => (ih fuel (e + 1) σ' v (by omega) (by omega) (hX.fr hf5 (by decide)) (by rw [ev, z_add1 (by omega), h3]; rfl) (fun x hx => ?_) hfd).mono (fun _ s h => ⟨hf5.tr h.1, h.2⟩)
        have e1 : Yc σ' x = Yc σ x := by unfold Yc; rw [hf5.1 25 x (by show (9 : Nat) ∉ _; decide)]
        have e2 : Ys σ' x = Ys σ x := by unfold Ys; rw [hf5.1 26 x (by show (9 : Nat) ∉ _; decide)]
        rw [e1, e2]
        exact hY x hx
      refine ok_i (by omega) (ok_ite (fun q => absurd (z_lt.mp q) (by rw [hX.2.1 t (by omega), h3]; omega)) (fun _ => ?_))
      refine ok_b (Q := fun v s => s = σ ∧ v.toInt = Yc σ e / 32) ?_ (fun v5 s6 h5 => ?_)
      · unfold m_X8_endCost m_X8_endCost_0
        rw [z_nv h3]
        exact ok_i (by omega) (ok_r ⟨rfl, hd⟩)
      obtain ⟨rfl, h5⟩ := h5
      refine ok_ite (fun q => nxt s6 frX.rf ?_) (fun q => ?_)
      · rw [z_lt, h5] at q
        show FdX (nrow (umu c P L K) S l2.toInt t e (nends (umu c P L K) S l2.toInt t e kv)).1 (nrow (umu c P L K) S l2.toInt t e (nends (umu c P L K) S l2.toInt t e kv)).2 s6
        unfold nrow
        rw [if_neg (fun z => by have := (y1 z).1; omega)]
        exact hF
      · rw [z_lt, h5] at q
        have hle : (bw (fun s => umu c P L K t s e) S).1 / 32 ≤ l2.toInt := Int.not_lt.mp (fun z => q (y2 z))
        have hy := y1 hle
        refine ok_b (Q := fun v s => s = s6 ∧ v.toInt = 24 - Yc s6 e % 32) ?_ (fun v9 s10 h9 => ?_)
        · unfold m_X8_endPlace m_X8_endPlace_0
          rw [z_nv h3]
          exact ok_i (by omega) (ok_r ⟨rfl, z_rem32 y0⟩)
        obtain ⟨rfl, h9⟩ := h9
        refine ok_b (Q := fun v s => s = s10 ∧ v.toInt = Ys s10 e) ?_ (fun v12 s13 h12 => ?_)
        · unfold m_X8_endShift m_X8_endShift_0
          rw [z_nv h3]
          exact ok_i (by omega) (ok_r ⟨rfl, rfl⟩)
        obtain ⟨rfl, h12⟩ := h12
        refine ok_b (x_add (k := (nends (umu c P L K) S l2.toInt t e kv).1) (by omega) hF) (fun _ s16 h16 => nxt s16 h16.2 ?_)
        show FdX (nrow (umu c P L K) S l2.toInt t e (nends (umu c P L K) S l2.toInt t e kv)).1 (nrow (umu c P L K) S l2.toInt t e (nends (umu c P L K) S l2.toInt t e kv)).2 s16
        unfold nrow
        rw [if_pos hle]
        have h := h16.1
        rw [h1, h9, h3, h5, h12, hy.1, hy.2] at h
        exact h
noncomputable def pNear (n : Nat) (c : Nat → Nat) (P L : Nat → Nat → Int) (K : Nat → Int) (k : Nat) (v : Nat → Nat → Int) (most S : Int) : Int × Nat × (Nat → Nat → Int) := if most < 0 ∨ S < 0 ∨ 24 < S then (-2, k, v) else ((ntun (umu c P L K) S.toNat most c n).1, ntun (umu c P L K) S.toNat most c n)
theorem x_near27 {n : Nat} {c : Nat → Nat} {P L : Nat → Nat → Int} {K : Nat → Int} {S : Nat} {l1 l2 : Int32} (hB : NB n c P L) (hK : KB K) (h1 : 0 ≤ l1.toInt) (h2 : l2.toInt = S) (hS : S ≤ 24) :
    ∀ (r fuel t : Nat) (σ : SG) (l3 : Int32), r < fuel → t + r = n → uNX n c P L σ → KX K σ → l3.toInt = t → FdX (ntun (umu c P L K) S l1.toInt c t).1 (ntun (umu c P L K) S l1.toInt c t).2 σ → uOk (m_X11_near_27 fuel σ l1 l2 l3) (fun v σ' => v.toInt = (ntun (umu c P L K) S l1.toInt c n).1 ∧ frX [9, 5] σ σ' ∧ FdX (ntun (umu c P L K) S l1.toInt c n).1 (ntun (umu c P L K) S l1.toInt c n).2 σ') := by
  have hn := hB.1
  have hc : ∀ r, r < 8 → c r ≤ 24 := fun r hr => by have := hB.2.1 r (by omega); unfold rcap at this; rw [if_neg (by omega)] at this; exact this
  intro r
  induction r with
  | zero =>
    intro fuel t σ l3 hf hr hX hKX h3 hF
    cases fuel with
    | zero => omega
    | succ fuel =>
      show uOk (m_X11_near_27_s _ σ l1 l2 l3) _
      unfold m_X11_near_27_s
      exact ok_ite (fun _ => ok_r (by rw [show n = t by omega]; exact ⟨hF.1, frX.rf, hF⟩)) (fun q => absurd (z_le.mpr (by rw [hX.1, h3]; omega)) q)
  | succ r ih =>
    intro fuel t σ l3 hf hr hX hKX h3 hF
    cases fuel with
    | zero => omega
    | succ fuel =>
      show uOk (m_X11_near_27_s _ σ l1 l2 l3) _
      unfold m_X11_near_27_s
      rw [z_nv h3]
      have hb := ntun_b (μ := umu c P L K) (S := S) (most := l1.toInt) hc t (by omega)
      refine ok_ite (fun q => absurd (z_le.mp q) (by rw [hX.1, h3]; omega)) (fun _ => ok_i (by omega) (ok_b (x_seek hB hK hX hKX (by omega) hS h2 h1) (fun _ s11 h11 => ok_b (Q := fun _ σ' => frX [5] s11 σ' ∧ FdX (ntun (umu c P L K) S l1.toInt c (t + 1)).1 (ntun (umu c P L K) S l1.toInt c (t + 1)).2 σ') ?_ (fun _ s14 h14 => ok_l fun v ev => ?_))))
      · unfold m_X11_addEnds m_X11_addEnds_0
        exact x_addEnds hB (by omega) h3 h1 (by omega) (c t + 1) FV 0 s11 0 (FV_big (by have := hc t (by omega); omega)) (by omega) (hX.fr h11.1 (by decide)) rfl h11.2 (hF.fr h11.1 (by decide))
      · have hFF : frX [9, 5] σ s14 := (h11.1.wk (by simp)).tr (h14.1.wk (by simp))
        exact (ih fuel (t + 1) s14 v (by omega) (by omega) (hX.fr hFF (by decide)) (hKX.fr hFF (by decide)) (by rw [ev, z_add1 (by omega), h3]; rfl) h14.2).mono (fun _ s h => ⟨h.1, hFF.tr h.2.1, h.2.2⟩)
theorem x_near {n : Nat} {c : Nat → Nat} {P L : Nat → Nat → Int} {K : Nat → Int} {k : Nat} {v : Nat → Nat → Int} {σ : SG} {p0 p1 : Int32} (hB : NB n c P L) (hK : KB K) (hX : uNX n c P L σ) (hKX : KX K σ) (hF : FdX k v σ) : uOk (m_X11_near σ p0 p1) (fun r σ' => r.toInt = (pNear n c P L K k v p0.toInt p1.toInt).1 ∧ FdX (pNear n c P L K k v p0.toInt p1.toInt).2.1 (pNear n c P L K k v p0.toInt p1.toInt).2.2 σ' ∧ frX [9, 5] σ σ') := by
  have k0 : ((0 : Int32)).toInt = 0 := rfl
  have k24 : ((24 : Int32)).toInt = 24 := rfl
  have hn := hB.1
  unfold m_X11_near m_X11_near_0 pNear
  refine ok_ite (fun q => ok_r ?_) (fun q1 => ok_ite (fun q => ok_r ?_) (fun q2 => ok_ite (fun q3 => ok_l fun s e => ?_) (fun q => ok_r ?_)))
  · rw [z_lt, k0] at q; rw [if_pos (Or.inl q)]; exact ⟨rfl, hF, frX.rf⟩
  · rw [z_lt, k0] at q; rw [if_pos (Or.inr (Or.inl q))]; exact ⟨rfl, hF, frX.rf⟩
  · rw [z_lt, k0] at q1 q2
    rw [z_le, k24] at q3
    rw [if_neg (by omega)]
    have hF0 : frX [9, 5] σ s := by rw [e]; exact frX.rf.sI (by show (5 : Nat) ∈ _; decide)
    refine (x_near27 (S := p1.toInt.toNat) hB hK (by omega) (by omega) (by omega) n FV 0 s 0 (FV_big (by omega)) (by omega) (hX.fr hF0 (by decide)) (hKX.fr hF0 (by decide)) rfl ⟨by rw [e, g_sI_s]; rfl, fun j hj => absurd hj (Nat.not_lt_zero j)⟩).mono (fun r s' h => ⟨h.1, h.2.2, hF0.tr h.2.1⟩)
  · rw [z_le, k24] at q; rw [if_pos (Or.inr (Or.inr (by omega)))]; exact ⟨rfl, hF, frX.rf⟩
