/-! ===== near: for each end the cheapest way, over all shifts ===== -/
theorem min_ex {S : Int → Prop} (h : ∃ v, S v) (hl : ∀ v, S v → 0 ≤ v) : ∃ v, IsMin S v := by
  obtain ⟨c, hc⟩ := h
  have : ∀ k : Nat, ∀ c : Int, c = k → S c → ∃ v, IsMin S v := by
    intro k
    induction k using Nat.strongRecOn with
    | _ k ih =>
      intro c hk hp
      by_cases q : ∃ e, S e ∧ e < c
      · obtain ⟨e, e1, e2⟩ := q
        have he := hl e e1
        exact ih e.toNat (by omega) e (by omega) e1
      · exact ⟨c, hp, fun e he => Int.not_lt.mp (fun z => q ⟨e, he, z⟩)⟩
  exact this c.toNat c (by have := hl c hc; omega) hc
noncomputable def umu (c : Nat → Nat) (P L : Nat → Nat → Int) (K : Nat → Int) (t : Nat) (s : Int) (e : Nat) : Int :=
  Classical.epsilon (fun v => IsMin (Rch (wd c P L K 8 t s) (Sd (wd c P L K 8 t s)) (c 8) e) v)
theorem alone_s {d : WD} (j : Nat) : ∀ i, i ≤ wn d → Pth d 0 j i j (wK d 2 * wlas d 0 i)
  | 0, _ => by rw [show wlas d 0 0 = 0 from rfl, Int.mul_zero]; exact Pth.rf
  | i + 1, q => by
    have h := (alone_s j i (by omega)).snoc (Or.inl ⟨by omega, rfl, rfl, rfl⟩ : uStp d i j (i + 1) j (wK d 2 * wla d i))
    have e : wK d 2 * wlas d 0 i + wK d 2 * wla d i = wK d 2 * wlas d 0 (i + 1) := by
      show _ = wK d 2 * (wlas d 0 i + wla d (0 + i))
      rw [Int.mul_add, Nat.zero_add]
    rw [← e]
    exact h
theorem mu_ok {n : Nat} {c : Nat → Nat} {P L : Nat → Nat → Int} {K : Nat → Int} {t : Nat} {s : Int} {e : Nat} (hB : NB n c P L) (hK : KB K) (ht : t < 8) (s1 : -24 ≤ s) (s2 : s ≤ 24) (he : e ≤ c t) : IsMin (Rch (wd c P L K 8 t s) (Sd (wd c P L K 8 t s)) (c 8) e) (umu c P L K t s e) ∧ 0 ≤ umu c P L K t s e ∧ umu c P L K t s e / 32 ≤ K 2 * wlas (wd c P L K 8 t s) 0 (c 8) := by
  have hW := wd_B (x := 8) (y := t) (s := s) hB hK (by omega) (by omega) s1 s2
  have ha : Rch (wd c P L K 8 t s) (Sd (wd c P L K 8 t s)) (c 8) e ((24 - e : Int) + 32 * (K 2 * wlas (wd c P L K 8 t s) 0 (c 8))) := ⟨e, 24 - e, _, ⟨he, rfl⟩, alone_s (d := wd c P L K 8 t s) e (c 8) (Nat.le_refl _), rfl⟩
  have h := Classical.epsilon_spec (min_ex ⟨_, ha⟩ (fun v hv => Rch.lo hW hv))
  have h1 : IsMin (Rch (wd c P L K 8 t s) (Sd (wd c P L K 8 t s)) (c 8) e) (umu c P L K t s e) := h
  have h2 := h1.2 _ ha
  exact ⟨h1, Rch.lo hW h1.1, by omega⟩
def bstep (μ : Int → Int) (b : Int × Int) (s : Int) : Int × Int := if μ s / 32 < b.1 / 32 then (μ s, s) else b
def bw (μ : Int → Int) : Nat → Int × Int
  | 0 => bstep μ (2147483647, 0) 0
  | w + 1 => bstep μ (bstep μ (bw μ w) (-((w : Int) + 1))) ((w : Int) + 1)
def nrow (μ : Nat → Int → Nat → Int) (S : Nat) (most : Int) (t e : Nat) (kv : Nat × (Nat → Nat → Int)) : Nat × (Nat → Nat → Int) :=
  if (bw (fun s => μ t s e) S).1 / 32 ≤ most then (kv.1 + 1, insV kv.2 (row5 t (24 - (bw (fun s => μ t s e) S).1 % 32) e ((bw (fun s => μ t s e) S).1 / 32) (bw (fun s => μ t s e) S).2) kv.1) else kv
def nends (μ : Nat → Int → Nat → Int) (S : Nat) (most : Int) (t : Nat) : Nat → Nat × (Nat → Nat → Int) → Nat × (Nat → Nat → Int)
  | 0, kv => kv
  | e + 1, kv => nrow μ S most t e (nends μ S most t e kv)
def ntun (μ : Nat → Int → Nat → Int) (S : Nat) (most : Int) (c : Nat → Nat) : Nat → Nat × (Nat → Nat → Int)
  | 0 => (0, fun _ _ => 0)
  | t + 1 => nends μ S most t (c t + 1) (ntun μ S most c t)
theorem nends_b {μ : Nat → Int → Nat → Int} {S : Nat} {most : Int} {t : Nat} {kv : Nat × (Nat → Nat → Int)} : ∀ e, (nends μ S most t e kv).1 ≤ kv.1 + e
  | 0 => Nat.le_refl _
  | e + 1 => by
    have ih := nends_b (μ := μ) (S := S) (most := most) (t := t) (kv := kv) e
    show (nrow μ S most t e (nends μ S most t e kv)).1 ≤ _
    unfold nrow
    split
    · show (nends μ S most t e kv).1 + 1 ≤ _
      omega
    · omega
theorem ntun_b {μ : Nat → Int → Nat → Int} {S : Nat} {most : Int} {c : Nat → Nat} (hc : ∀ r, r < 8 → c r ≤ 24) : ∀ t, t ≤ 8 → (ntun μ S most c t).1 ≤ 25 * t
  | 0, _ => Nat.le_refl _
  | t + 1, q => by
    have ih := ntun_b (μ := μ) (S := S) (most := most) hc t (by omega)
    have h := nends_b (μ := μ) (S := S) (most := most) (t := t) (kv := ntun μ S most c t) (c t + 1)
    have := hc t (by omega)
    show (nends μ S most t (c t + 1) (ntun μ S most c t)).1 ≤ _
    omega
/-- what the class holds of an end, against the best b -/
def uclB (M : Int) (b : Int × Int) (y ys : Int) : Prop := 0 ≤ y ∧ (b.1 / 32 ≤ M → y = b.1 ∧ ys = b.2) ∧ (M < b.1 / 32 → M < y / 32)
theorem uclB.step {M : Int} {b : Int × Int} {y ys X s : Int} {μ : Int → Int} (hM : M ≤ 768000) (h : uclB M b y ys) (h0 : 0 ≤ X) (h1 : X = 2147483647 ∨ μ s ≤ X) (h2 : μ s / 32 ≤ M → X = μ s) (h3 : 0 ≤ μ s) : uclB M (bstep μ b s) (if X / 32 < y / 32 then X else y) (if X / 32 < y / 32 then s else ys) := by
  obtain ⟨a0, a1, a2⟩ := h
  unfold uclB bstep
  by_cases q : b.1 / 32 ≤ M
  · obtain ⟨rfl, rfl⟩ := a1 q
    by_cases q2 : μ s / 32 < b.1 / 32
    · have hX := h2 (by omega)
      rw [if_pos q2, if_pos (by omega), if_pos (by omega), hX]
      exact ⟨h3, fun _ => ⟨rfl, rfl⟩, fun z => by omega⟩
    · rw [if_neg q2]
      by_cases q3 : μ s / 32 ≤ M
      · have hX := h2 q3
        rw [if_neg (by omega), if_neg (by omega)]
        exact ⟨a0, fun _ => ⟨rfl, rfl⟩, fun z => by omega⟩
      · rw [if_neg (by omega), if_neg (by omega)]
        exact ⟨a0, fun _ => ⟨rfl, rfl⟩, fun z => by omega⟩
  · have hy := a2 (by omega)
    by_cases q3 : μ s / 32 ≤ M
    · have hX := h2 q3
      rw [if_pos (by omega), if_pos (by omega), if_pos (by omega), hX]
      exact ⟨h3, fun _ => ⟨rfl, rfl⟩, fun z => by omega⟩
    · have hX : M < X / 32 := by omega
      split <;> split <;> exact ⟨by omega, fun z => by omega, fun _ => by omega⟩
def Yc (σ : SG) (e : Nat) : Int := (σ.1 25 e).toInt
def Ys (σ : SG) (e : Nat) : Int := (σ.1 26 e).toInt
theorem x_fill25 : ∀ (r fuel k : Nat) (σ : SG) (l1 l2 l3 : Int32), r < fuel → k + r = 25 → l2.toInt = k → l3.toInt = 25 → (∀ j, j < k → σ.1 25 j = l1) → uOk (m_J7_fill_53178_5 25 fuel σ l1 l2 l3) (fun _ σ' => fr1 25 26 σ σ' ∧ ∀ j, j < 25 → σ'.1 25 j = l1) := by
  intro r
  induction r with
  | zero =>
    intro fuel k σ l1 l2 l3 hf hr h2 h3 hd
    cases fuel with
    | zero => omega
    | succ fuel =>
      show uOk (m_J7_fill_53178_5_s 25 _ σ l1 l2 l3) _
      unfold m_J7_fill_53178_5_s
      exact ok_ite (fun _ => ok_r ⟨fr1.rf, fun j hj => hd j (by omega)⟩) (fun q => absurd (z_le.mpr (by rw [h2, h3]; omega)) q)
  | succ r ih =>
    intro fuel k σ l1 l2 l3 hf hr h2 h3 hd
    cases fuel with
    | zero => omega
    | succ fuel =>
      show uOk (m_J7_fill_53178_5_s 25 _ σ l1 l2 l3) _
      unfold m_J7_fill_53178_5_s
      rw [show lenX 25 = 25 from rfl, z_nv h2]
      refine ok_ite (fun q => absurd (z_le.mp q) (by rw [h2, h3]; omega)) (fun _ => ok_i (by omega) (ok_l fun s es => ok_l fun v ev => ?_))
      have hF : fr1 25 26 σ s := by rw [es]; exact fr1.rf.sI (by omega)
      refine (ih fuel (k + 1) s l1 v l3 (by omega) (by omega) (by rw [ev, z_add1 (by omega), h2]; rfl) h3 (fun j hj => ?_)).mono (fun _ s' h => ⟨hF.tr h.1, h.2⟩)
      rw [es, g_sI]
      by_cases e : j = k
      · rw [if_pos ⟨rfl, e⟩]
      · rw [if_neg (by omega)]; exact hd j (by omega)
theorem x_lenAll {n : Nat} {c : Nat → Nat} {P L : Nat → Nat → Int} {σ : SG} {d : WD} (hB : NB n c P L) (hX : uNX n c P L σ) (hd : wn d = c 8) (hl : wla d = L 8) (hW : WB d) : ∀ (r fuel k : Nat) (l1 l2 : Int32), r < fuel → k + r = c 8 → l1.toInt = wlas d 0 k → l2.toInt = k → uOk (m_X4_lengthOfAll_4 8 fuel σ l1 l2) (fun v σ' => σ' = σ ∧ v.toInt = wlas d 0 (c 8)) := by
  have h12 : c 8 ≤ 12 := hB.2.1 8 (by omega)
  have h8 := hX.2.1 8 (by omega)
  intro r
  induction r with
  | zero =>
    intro fuel k l1 l2 hf hr h1 h2
    cases fuel with
    | zero => omega
    | succ fuel =>
      show uOk (m_X4_lengthOfAll_4_s 8 _ σ l1 l2) _
      unfold m_X4_lengthOfAll_4_s
      exact ok_ite (fun _ => ok_r ⟨rfl, by rw [h1, show k = c 8 by omega]⟩) (fun q => absurd (z_le.mpr (by rw [h8, h2]; omega)) q)
  | succ r ih =>
    intro fuel k l1 l2 hf hr h1 h2
    cases fuel with
    | zero => omega
    | succ fuel =>
      show uOk (m_X4_lengthOfAll_4_s 8 _ σ l1 l2) _
      unfold m_X4_lengthOfAll_4_s
      rw [show lenX (2 * 8 + 1) = 12 from rfl, z_nv h2]
      have h3 := (hX.2.2 8 k (by omega) (by omega)).2
      have h4 := hB.2.2.2 8 k (by omega) (by omega)
      have h5 := wlas_b hW (i := 0) k (by omega)
      refine ok_ite (fun q => absurd (z_le.mp q) (by rw [h8, h2]; omega)) (fun _ => ok_i (by omega) (ok_l fun v ev => ok_l fun w ew => ?_))
      refine ih fuel (k + 1) v w (by omega) (by omega) ?_ (by rw [ew, z_add1 (by omega), h2]; rfl)
      rw [ev, z_addv h1 h3 (by omega) (by omega)]
      show _ = wlas d 0 k + wla d (0 + k)
      rw [Nat.zero_add, hl]
theorem x_sb9 {σ : SG} {d : WD} {r0 r1 : Nat} {lim : Int} {l3 : Int32} {P : Unit → SG → Prop} (hB : WB d) (h3 : l3.toInt = uws d) (h24 : wm d ≤ 24) (kk : ∀ σ', WXd d r0 r1 lim σ' → fr1 41 90 σ σ' → GE d (Sd d) lim σ' → uOk (m_X8_seekEndsBy_48 r0 r1 FV σ' l3 0) P) :
    ∀ (r fuel p : Nat) (s : SG) (l4 : Int32), r < fuel → p + r = wm d + 1 → WXd d r0 r1 lim s → fr1 41 66 σ s → l4.toInt = p → (∀ x y, x ≤ wn d → y ≤ wm d → Xv s x y = if x = 0 ∧ y < p then 24 - (y : Int) else 2147483647) → uOk (m_X8_seekEndsBy_9 r0 r1 fuel s l3 l4) P := by
  have b1 := hB.1
  have n0 : (0 : Int32).toNatClampNeg = 0 := rfl
  have kn : ((24 : Int32)).toInt = 24 := rfl
  intro r
  induction r with
  | zero =>
    intro fuel p s l4 hf hr hW hF h4 hX
    cases fuel with
    | zero => omega
    | succ fuel =>
      show uOk (m_X8_seekEndsBy_9_s r0 r1 _ s l3 l4) P
      unfold m_X8_seekEndsBy_9_s
      refine ok_ite (fun _ => ok_b (x_go (S := Sd d) hB h3 hW ⟨fun x y hx hy => ?_, fun q e hq => ?_, fun x y _ _ h => by omega⟩) (fun _ s' h => kk s' (hW.fr h.1 (by omega) (by omega)) ⟨fun k i z => (h.1.1 k i z).trans (hF.1 k i (by omega)), h.1.2.trans hF.2⟩ h.2)) (fun q => absurd (z_lt.mpr (by rw [hW.2.1.2, h4]; omega)) q)
      · rw [hX x y hx hy]
        split
        · rename_i q
          refine ⟨by omega, Or.inr ⟨y, 24 - y, 0, ⟨hy, rfl⟩, ?_, by omega⟩⟩
          rw [q.1]
          exact Pth.rf
        · exact ⟨by decide, Or.inl rfl⟩
      · refine ⟨hq.1, ?_⟩
        have := hq.1
        rw [hX 0 q (by omega) hq.1, if_pos ⟨rfl, by omega⟩, hq.2]
        exact Int.le_refl _
  | succ r ih =>
    intro fuel p s l4 hf hr hW hF h4 hX
    cases fuel with
    | zero => omega
    | succ fuel =>
      show uOk (m_X8_seekEndsBy_9_s r0 r1 _ s l3 l4) P
      unfold m_X8_seekEndsBy_9_s
      rw [n0, z_nv h4]
      refine ok_ite (fun q => absurd (z_lt.mp q) (by rw [hW.2.1.2, h4]; omega)) (fun _ => ok_i ⟨by decide, by decide⟩ (ok_i (by omega) (ok_l fun s1 e1 => ok_l fun v ev => ?_)))
      have hF1 : fr1 41 66 s s1 := by rw [e1]; exact fr1.rf.sI (by omega)
      refine ih fuel (p + 1) s1 v (by omega) (by omega) (hW.fr hF1 (by omega) (by omega)) (hF.tr hF1) (by rw [ev, z_add1 (by omega), h4]; rfl) (fun x y hx hy => ?_)
      have h0 := hX x y hx hy
      unfold Xv at h0 ⊢
      rw [e1, g_sI]
      by_cases e : 41 + x = 41 + 0 ∧ y = p
      · rw [if_pos e, if_pos (by omega), z_subv kn h4 (by omega) (by omega), e.2]
      · rw [if_neg e, h0]
        by_cases q2 : x = 0 ∧ y < p
        · rw [if_pos q2, if_pos (by omega)]
        · rw [if_neg q2, if_neg (by omega)]
/-- one shift: each end's best is brought up to date -/
theorem x_sb48 {d : WD} {r0 r1 : Nat} {lim : Int} {l3 : Int32} (hB : WB d) (σ0 : SG) :
    ∀ (r fuel e : Nat) (s : SG) (l4 : Int32), r < fuel → e + r = wm d + 1 → WXd d r0 r1 lim s → l4.toInt = e → GE d (Sd d) lim s → (∀ y, y ≤ wm d → 0 ≤ Yc σ0 y) → (∀ y, y ≤ wm d → e ≤ y → Yc s y = Yc σ0 y ∧ Ys s y = Ys σ0 y) → (∀ y, y < e → Yc s y = (if Xv s (wn d) y / 32 < Yc σ0 y / 32 then Xv s (wn d) y else Yc σ0 y) ∧ Ys s y = (if Xv s (wn d) y / 32 < Yc σ0 y / 32 then l3.toInt else Ys σ0 y)) →
      uOk (m_X8_seekEndsBy_48 r0 r1 fuel s l3 l4) (fun _ σ' => fr1 25 27 s σ' ∧ GE d (Sd d) lim σ' ∧ ∀ y, y ≤ wm d → Yc σ' y = (if Xv σ' (wn d) y / 32 < Yc σ0 y / 32 then Xv σ' (wn d) y else Yc σ0 y) ∧ Ys σ' y = (if Xv σ' (wn d) y / 32 < Yc σ0 y / 32 then l3.toInt else Ys σ0 y)) := by
  have b1 := hB.1
  have b2 := hB.2.1
  intro r
  induction r with
  | zero =>
    intro fuel e s l4 hf hr hW h4 hG h0 hl hd
    cases fuel with
    | zero => omega
    | succ fuel =>
      show uOk (m_X8_seekEndsBy_48_s r0 r1 _ s l3 l4) _
      unfold m_X8_seekEndsBy_48_s
      exact ok_ite (fun _ => ok_r ⟨fr1.rf, hG, fun y hy => hd y (by omega)⟩) (fun q => absurd (z_lt.mpr (by rw [hW.2.1.2, h4]; omega)) q)
  | succ r ih =>
    intro fuel e s l4 hf hr hW h4 hG h0 hl hd
    cases fuel with
    | zero => omega
    | succ fuel =>
      show uOk (m_X8_seekEndsBy_48_s r0 r1 _ s l3 l4) _
      unfold m_X8_seekEndsBy_48_s
      rw [z_nv hW.2.1.1, z_nv h4]
      have hle := hl e (by omega) (Nat.le_refl _)
      have hx0 := (hG (wn d) e (Nat.le_refl _) (by omega)).1
      have hy0 := h0 e (by omega)
      have g5 := hW.2.1.1
      have hk : ∀ s', fr1 25 27 s s' → (∀ y, y ≠ e → s'.1 25 y = s.1 25 y ∧ s'.1 26 y = s.1 26 y) → Yc s' e = (if Xv s (wn d) e / 32 < Yc σ0 e / 32 then Xv s (wn d) e else Yc σ0 e) → Ys s' e = (if Xv s (wn d) e / 32 < Yc σ0 e / 32 then l3.toInt else Ys σ0 e) → uOk (m_X8_seekEndsBy_106 r0 r1 (m_X8_seekEndsBy_48 r0 r1 fuel) s' l3 l4) (fun _ σ' => fr1 25 27 s σ' ∧ GE d (Sd d) lim σ' ∧ ∀ y, y ≤ wm d → Yc σ' y = (if Xv σ' (wn d) y / 32 < Yc σ0 y / 32 then Xv σ' (wn d) y else Yc σ0 y) ∧ Ys σ' y = (if Xv σ' (wn d) y / 32 < Yc σ0 y / 32 then l3.toInt else Ys σ0 y)) := fun s' hF ho hc hs => by
        have hX : ∀ x y, Xv s' x y = Xv s x y := fun x y => by unfold Xv; rw [hF.1 _ _ (by omega)]
        unfold m_X8_seekEndsBy_106
        refine ok_l fun v ev => (ih fuel (e + 1) s' v (by omega) (by omega) (hW.fr hF (by omega) (by omega)) (by rw [ev, z_add1 (by omega), h4]; rfl) (fun x y hx hy => by rw [hX]; exact hG x y hx hy) h0 (fun y hy hey => ?_) (fun y hy => ?_)).mono (fun _ s2 h => ⟨hF.tr h.1, h.2⟩)
        · have := ho y (by omega)
          unfold Yc Ys
          rw [this.1, this.2]
          exact hl y hy (by omega)
        · rw [hX]
          by_cases q : y = e
          · rw [q]; exact ⟨hc, hs⟩
          · have := ho y q
            unfold Yc Ys
            rw [this.1, this.2]
            exact hd y (by omega)
      refine ok_ite (fun q => absurd (z_lt.mp q) (by rw [hW.2.1.2, h4]; omega)) (fun _ => ok_i (by omega) (ok_i (by omega) (ok_l fun v19 e19 => ok_i (by omega) ?_)))
      have h19 : v19.toInt = Xv s (wn d) e := by rw [e19]; rfl
      have hyc : (s.1 25 e).toInt = Yc σ0 e := hle.1
      have dv : (v19 / 32).toInt = Xv s (wn d) e / 32 := by rw [z_div32 (by omega), h19]
      have dy : (s.1 25 e / 32).toInt = Yc σ0 e / 32 := by rw [z_div32 (by omega), hyc]
      refine ok_ite (fun q => hk s fr1.rf (fun _ _ => ⟨rfl, rfl⟩) ?_ ?_) (fun q => ok_i (by omega) (ok_l fun s1 e1 => ok_i (by omega) (ok_l fun s2 e2 => hk s2 ?_ (fun y hy => ?_) ?_ ?_)))
      · rw [z_le, dv, dy] at q; rw [if_neg (by omega)]; exact hle.1
      · rw [z_le, dv, dy] at q; rw [if_neg (by omega)]; exact hle.2
      · rw [e2, e1]; exact (fr1.rf.sI (by omega)).sI (by omega)
      · rw [e2, g_sI, if_neg (by omega), g_sI, if_neg (by omega), e1, g_sI, if_neg (by omega), g_sI, if_neg (by omega)]; exact ⟨rfl, rfl⟩
      · rw [z_le, dv, dy] at q; rw [if_pos (by omega)]
        unfold Yc
        rw [e2, g_sI, if_neg (by omega), e1, g_sI_s, h19]
      · rw [z_le, dv, dy] at q; rw [if_pos (by omega)]
        unfold Ys
        rw [e2, g_sI_s]
