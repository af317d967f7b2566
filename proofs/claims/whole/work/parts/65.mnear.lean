/-! ===== the model's near ===== -/
def Gc (σ : SG) (y : Nat) : Int := (σ.1 14 y).toInt
def Gf (σ : SG) (y : Nat) : Int := (σ.1 15 y).toInt
def Gs (σ : SG) (y : Nat) : Int := (σ.1 16 y).toInt
/-- an end's best, brought up to date with the encoded way m of the shift s -/
def gup (m s : Int) (C F S C' F' S' : Int) : Prop := (m / 32 < C → C' = m / 32 ∧ F' = 24 - m % 32 ∧ S' = s) ∧ (¬ m / 32 < C → C' = C ∧ F' = F ∧ S' = S)
theorem Dn.mu {n : Nat} {c : Nat → Nat} {P L : Nat → Nat → Int} {K : Nat → Int} {t : Nat} {s : Int} {y : Nat} {σ : SG} (hB : NB n c P L) (hK : KB K) (ht : t < 8) (s1 : -24 ≤ s) (s2 : s ≤ 24) (hy : y ≤ c t) (h : Dn (wd c P L K 8 t s) σ (c 8) y) : Ec σ (c 8) y = umu c P L K t s y / 32 ∧ Ef σ (c 8) y = 24 - umu c P L K t s y % 32 := by
  have e := h.2.2.uniq (mu_ok (s := s) hB hK ht s1 s2 hy).1
  have h1 := h.1
  have h2 := h.2.1
  unfold uEn at e
  omega
section MN
variable {n : Nat} {c : Nat → Nat} {P L : Nat → Nat → Int} {K : Nat → Int} {t : Nat} {Q : Int32 → SG → Prop} {c41 : SG → Int32 → Int32 → Int32 → Int32 → Option (Int32 × SG)} {c83 : SG → Int32 → Int32 → Int32 → Int32 → Int32 → Option (Int32 × SG)} {c94 : SG → Int32 → Int32 → Int32 → Int32 → Int32 → Int32 → Option (Int32 × SG)} {l1 l2 l3 l4 l5 l6 : Int32}
theorem m_n112 (hB : NB n c P L) (hK : KB K) (ht : t < 8) (s1 : -24 ≤ l6.toInt) (s2 : l6.toInt ≤ 24) (h3 : l3.toInt = (25 * c 8 : Nat)) (h4 : l4.toInt = t) (h5 : 0 ≤ l5.toInt ∧ l5.toInt ≤ 24) (σ0 : SG)
    (kk : ∀ σ', frM [9] σ0 σ' → (∀ y, y ≤ c t → gup (umu c P L K t l6.toInt y) l6.toInt (Gc σ0 y) (Gf σ0 y) (Gs σ0 y) (Gc σ' y) (Gf σ' y) (Gs σ' y)) → ∀ v : Int32, v.toInt = l6.toInt + (if l5.toInt = 0 then 1 else 2 * l5.toInt) → uOk (c94 σ' l1 l2 l3 l4 l5 v) Q) :
    ∀ (r fuel e : Nat) (s : SG) (l7 : Int32), r < fuel → e + r = c t + 1 → uNM n c P L s → l7.toInt = e → frM [9] σ0 s → (∀ y, y ≤ c t → Dn (wd c P L K 8 t l6.toInt) s (c 8) y) → (∀ y, y < e → gup (umu c P L K t l6.toInt y) l6.toInt (Gc σ0 y) (Gf σ0 y) (Gs σ0 y) (Gc s y) (Gf s y) (Gs s y)) → (∀ y, y ≤ c t → e ≤ y → Gc s y = Gc σ0 y ∧ Gf s y = Gf σ0 y ∧ Gs s y = Gs σ0 y) → uOk (m_X12_near_112 c41 c83 c94 fuel s l1 l2 l3 l4 l5 l6 l7) Q := by
  have h12 : c 8 ≤ 12 := hB.2.1 8 (by omega)
  have h24 : c t ≤ 24 := by have := hB.2.1 t (by omega); unfold rcap at this; split at this <;> omega
  have k0 : ((0 : Int32)).toInt = 0 := rfl
  have k1 : ((1 : Int32)).toInt = 1 := rfl
  have k2 : ((2 : Int32)).toInt = 2 := rfl
  intro r
  induction r with
  | zero =>
    intro fuel e s l7 hf hr hM h7 hF hD hdn hl
    cases fuel with
    | zero => omega
    | succ fuel =>
      show uOk (m_X12_near_112_s c41 c83 c94 _ s l1 l2 l3 l4 l5 l6 l7) Q
      unfold m_X12_near_112_s m_X12_near_205
      rw [z_nv h4]
      refine ok_i (by omega) (ok_ite (fun _ => ok_ite (fun q => ok_l fun v ev => kk s hF (fun y hy => hdn y (by omega)) v ?_) (fun q => ok_l fun v ev => kk s hF (fun y hy => hdn y (by omega)) v ?_)) (fun q => absurd (z_lt.mpr (by rw [hM.2.1 t (by omega), h7]; omega)) q))
      · rw [z_eq, k0] at q
        rw [if_neg q, ev, z_addv rfl (z_mulv k2 rfl (by omega) (by omega)) (by omega) (by omega)]
      · rw [z_eq, k0, Classical.not_not] at q
        rw [if_pos q, ev, z_addv rfl k1 (by omega) (by omega)]
  | succ r ih =>
    intro fuel e s l7 hf hr hM h7 hF hD hdn hl
    cases fuel with
    | zero => omega
    | succ fuel =>
      show uOk (m_X12_near_112_s c41 c83 c94 _ s l1 l2 l3 l4 l5 l6 l7) Q
      unfold m_X12_near_112_s
      have e37 : (l3 + l7).toInt = (25 * c 8 + e : Nat) := by rw [z_addv h3 h7 (by omega) (by omega)]; omega
      rw [z_nv h4, z_nv h7, z_nv e37]
      obtain ⟨d1, d2⟩ := (hD e (by omega)).mu hB hK ht s1 s2 (by omega)
      have hle := hl e (by omega) (Nat.le_refl _)
      have gc : (s.1 14 e).toInt = Gc σ0 e := hle.1
      have ec : (s.1 12 (25 * c 8 + e)).toInt = umu c P L K t l6.toInt e / 32 := d1
      have nxt : ∀ s', frM [9] s s' → (∀ x y, x ≠ 14 → x ≠ 15 → x ≠ 16 → s'.1 x y = s.1 x y) → (∀ y, y ≠ e → s'.1 14 y = s.1 14 y ∧ s'.1 15 y = s.1 15 y ∧ s'.1 16 y = s.1 16 y) → gup (umu c P L K t l6.toInt e) l6.toInt (Gc σ0 e) (Gf σ0 e) (Gs σ0 e) (Gc s' e) (Gf s' e) (Gs s' e) → uOk (m_X12_near_184 c41 c83 c94 (m_X12_near_112 c41 c83 c94 fuel) s' l1 l2 l3 l4 l5 l6 l7) Q := fun s' hF' hx ho hg => by
        unfold m_X12_near_184
        refine ok_l fun v ev => ih fuel (e + 1) s' v (by omega) (by omega) (hM.fr hF' (by decide)) (by rw [ev, z_add1 (by omega), h7]; rfl) (hF.tr hF') (fun y hy => ?_) (fun y hy => ?_) (fun y hy hey => ?_)
        · have := hD y hy
          unfold Dn uEn Ec Ef at *
          rw [hx _ _ (by omega) (by omega) (by omega), hx _ _ (by omega) (by omega) (by omega)]
          exact this
        · by_cases q : y = e
          · rw [q]; exact hg
          · have h9 := ho y q
            unfold Gc Gf Gs at *
            rw [h9.1, h9.2.1, h9.2.2]
            exact hdn y (by omega)
        · have h9 := ho y (by omega)
          unfold Gc Gf Gs at *
          rw [h9.1, h9.2.1, h9.2.2]
          exact hl y hy (by omega)
      refine ok_i (by omega) (ok_ite (fun q => absurd (z_lt.mp q) (by rw [hM.2.1 t (by omega), h7]; omega)) (fun _ => ok_i (by omega) (ok_i (by omega) (ok_ite (fun q => nxt s frM.rf (fun _ _ _ _ _ => rfl) (fun _ _ => ⟨rfl, rfl, rfl⟩) ?_) (fun q => ok_i (by omega) (ok_i (by omega) (ok_l fun s2 e2 => ok_i (by omega) (ok_i (by omega) (ok_l fun s3 e3 => ok_i (by omega) (ok_l fun s4 e4 => nxt s4 ?_ (fun x y a b d => ?_) (fun y hy => ?_) ?_))))))))))
      · rw [z_le, gc, ec] at q
        exact ⟨fun z => by omega, fun _ => hle⟩
      · rw [e4, e3, e2]
        exact ((frM.rf.sI (by show (9 : Nat) ∈ _; decide)).sI (by show (9 : Nat) ∈ _; decide)).sI (by show (9 : Nat) ∈ _; decide)
      · rw [e4, g_sI, if_neg (by omega), e3, g_sI, if_neg (by omega), e2, g_sI, if_neg (by omega)]
      · rw [e4, g_sI, if_neg (by omega), g_sI, if_neg (by omega), g_sI, if_neg (by omega), e3, g_sI, if_neg (by omega), g_sI, if_neg (by omega), g_sI, if_neg (by omega), e2, g_sI, if_neg (by omega), g_sI, if_neg (by omega), g_sI, if_neg (by omega)]
        exact ⟨rfl, rfl, rfl⟩
      · rw [z_le, gc, ec] at q
        refine ⟨fun _ => ⟨?_, ?_, ?_⟩, fun z => absurd (by omega) z⟩
        · unfold Gc; rw [e4, g_sI, if_neg (by omega), e3, g_sI, if_neg (by omega), e2, g_sI_s]; exact ec
        · unfold Gf; rw [e4, g_sI, if_neg (by omega), e3, g_sI_s, e2, g_sI, if_neg (by omega)]; exact d2
        · unfold Gs; rw [e4, g_sI_s]
theorem m_nshift (hB : NB n c P L) (hK : KB K) (ht : t < 8) (s1 : -24 ≤ l6.toInt) (s2 : l6.toInt ≤ 24) (h3 : l3.toInt = (25 * c 8 : Nat)) (h4 : l4.toInt = t) (h5 : 0 ≤ l5.toInt ∧ l5.toInt ≤ 24) (h56 : l6.toInt ≤ l5.toInt) {σ : SG} (hM : uNM n c P L σ) (hKM : uKM K σ)
    (kk : ∀ σ', frM [9] σ σ' → (∀ y, y ≤ c t → gup (umu c P L K t l6.toInt y) l6.toInt (Gc σ y) (Gf σ y) (Gs σ y) (Gc σ' y) (Gf σ' y) (Gs σ' y)) → ∀ v : Int32, v.toInt = l6.toInt + (if l5.toInt = 0 then 1 else 2 * l5.toInt) → uOk (c94 σ' l1 l2 l3 l4 l5 v) Q) : uOk (m_X12_near_94_s c41 c83 c94 σ l1 l2 l3 l4 l5 l6) Q := by
  have h24 : c t ≤ 24 := by have := hB.2.1 t (by omega); unfold rcap at this; split at this <;> omega
  unfold m_X12_near_94_s
  refine ok_ite (fun q => absurd (z_lt.mp q) (by omega)) (fun _ => ok_b (Q := fun _ σ' => frM [9] σ σ' ∧ (∀ y, y ≤ c t → Dn (wd c P L K 8 t l6.toInt) σ' (c 8) y) ∧ ∀ y, Gc σ' y = Gc σ y ∧ Gf σ' y = Gf σ y ∧ Gs σ' y = Gs σ y) ?_ (fun _ s36 h36 => ?_))
  · exact (m_reach hB hK hM hKM ht h4 s1 s2).mono (fun _ σ' h => ⟨h.1.M9, h.2, fun y => by unfold Gc Gf Gs; rw [h.1.1 14 y (by omega), h.1.1 15 y (by omega), h.1.1 16 y (by omega)]; exact ⟨rfl, rfl, rfl⟩⟩)
  · exact m_n112 hB hK ht s1 s2 h3 h4 h5 σ kk (c t + 1) FV 0 s36 0 (FV_big (by omega)) (by omega) (hM.fr h36.1 (by decide)) rfl h36.1 h36.2.1 (fun y h => by omega) (fun y _ _ => h36.2.2 y)
def MBs (c : Nat → Nat) (t : Nat) (b : Nat → Int × Int) (σ : SG) : Prop := ∀ e, e ≤ c t → Gc σ e = (b e).1 / 32 ∧ Gf σ e = 24 - (b e).1 % 32 ∧ Gs σ e = (b e).2
theorem gup.step {μ : Int → Int} {b : Int × Int} {s C F S C' F' S' : Int} (h : gup (μ s) s C F S C' F' S') (h1 : C = b.1 / 32 ∧ F = 24 - b.1 % 32 ∧ S = b.2) : C' = (bstep μ b s).1 / 32 ∧ F' = 24 - (bstep μ b s).1 % 32 ∧ S' = (bstep μ b s).2 := by
  obtain ⟨rfl, rfl, rfl⟩ := h1
  unfold bstep
  by_cases q : μ s / 32 < b.1 / 32
  · rw [if_pos q]; exact h.1 q
  · rw [if_neg q]; exact h.2 q
theorem m_n83 (hB : NB n c P L) (hK : KB K) (ht : t < 8) {S : Nat} (hS : S ≤ 24) (h2 : l2.toInt = S) (h3 : l3.toInt = (25 * c 8 : Nat)) (h4 : l4.toInt = t) (σ0 : SG)
    (kk : ∀ σ', frM [9] σ0 σ' → MBs c t (fun e => bw (fun s => umu c P L K t s e) S) σ' → uOk (m_X12_near_220 c41 FV σ' l1 l2 l3 l4 0) Q) :
    ∀ (r fuel w : Nat) (σ : SG) (l5 : Int32), r < fuel → w + r = S → l5.toInt = w + 1 → uNM n c P L σ → uKM K σ → frM [9] σ0 σ → MBs c t (fun e => bw (fun s => umu c P L K t s e) w) σ → uOk (m_X12_near_83 c41 fuel σ l1 l2 l3 l4 l5) Q := by
  intro r
  induction r with
  | zero =>
    intro fuel w σ l5 hf hr h5 hM hKM hF hG
    cases fuel with
    | zero => omega
    | succ fuel =>
      show uOk (m_X12_near_83_s c41 _ σ l1 l2 l3 l4 l5) Q
      unfold m_X12_near_83_s
      exact ok_ite (fun _ => kk σ hF (by rw [show S = w by omega]; exact hG)) (fun q => absurd (z_lt.mpr (by rw [h2, h5]; omega)) q)
  | succ r ih =>
    intro fuel w σ l5 hf hr h5 hM hKM hF hG
    cases fuel with
    | zero => omega
    | succ fuel =>
      show uOk (m_X12_near_83_s c41 _ σ l1 l2 l3 l4 l5) Q
      unfold m_X12_near_83_s
      have hn : (-l5).toInt = -((w : Int) + 1) := z_negv h5 (by omega)
      refine ok_ite (fun q => absurd (z_lt.mp q) (by rw [h2, h5]; omega)) (fun _ => ?_)
      show uOk (m_X12_near_94_s c41 (m_X12_near_83 c41 fuel) (m_X12_near_94 c41 (m_X12_near_83 c41 fuel) (FV - 1)) σ l1 l2 l3 l4 l5 (-l5)) Q
      refine m_nshift hB hK ht (by omega) (by omega) h3 h4 (by omega) (by omega) hM hKM (fun σ1 hF1 hg1 v1 hv1 => ?_)
      rw [hn, h5, if_neg (by omega)] at hv1
      show uOk (m_X12_near_94_s c41 (m_X12_near_83 c41 fuel) (m_X12_near_94 c41 (m_X12_near_83 c41 fuel) (FV - 2)) σ1 l1 l2 l3 l4 l5 v1) Q
      refine m_nshift hB hK ht (by omega) (by omega) h3 h4 (by omega) (by omega) (hM.fr hF1 (by decide)) (hKM.fr hF1 (by decide)) (fun σ2 hF2 hg2 v2 hv2 => ?_)
      rw [hv1, h5, if_neg (by omega)] at hv2
      show uOk (m_X12_near_94_s c41 (m_X12_near_83 c41 fuel) (m_X12_near_94 c41 (m_X12_near_83 c41 fuel) (FV - 3)) σ2 l1 l2 l3 l4 l5 v2) Q
      unfold m_X12_near_94_s
      refine ok_ite (fun _ => ok_l fun v ev => ih fuel (w + 1) σ2 v (by omega) (by omega) (by rw [ev, z_add1 (by omega), h5]; omega) ((hM.fr hF1 (by decide)).fr hF2 (by decide)) ((hKM.fr hF1 (by decide)).fr hF2 (by decide)) ((hF.tr hF1).tr hF2) (fun e he => ?_)) (fun q => absurd (z_lt.mpr (by rw [h5, hv2]; omega)) q)
      have a1 := hg1 e he
      rw [hn] at a1
      have a2 := a1.step (μ := fun s => umu c P L K t s e) (hG e he)
      have a3 := hg2 e he
      rw [hv1, show -((w : Int) + 1) + 2 * ((w : Int) + 1) = (w : Int) + 1 by omega] at a3
      exact a3.step (μ := fun s => umu c P L K t s e) a2
theorem m_n83_0 (hB : NB n c P L) (hK : KB K) (ht : t < 8) {S : Nat} (hS : S ≤ 24) (h2 : l2.toInt = S) (h3 : l3.toInt = (25 * c 8 : Nat)) (h4 : l4.toInt = t) (σ0 : SG)
    (kk : ∀ σ', frM [9] σ0 σ' → MBs c t (fun e => bw (fun s => umu c P L K t s e) S) σ' → uOk (m_X12_near_220 c41 FV σ' l1 l2 l3 l4 0) Q) {σ : SG} (hM : uNM n c P L σ) (hKM : uKM K σ) (hF : frM [9] σ0 σ) (hG : ∀ e, e ≤ c t → Gc σ e = 2147483647) : uOk (m_X12_near_83 c41 FV σ l1 l2 l3 l4 0) Q := by
  have k0 : ((0 : Int32)).toInt = 0 := rfl
  have hfv : FV = 1000000000000000000000000000000 := rfl
  have hn : (-(0 : Int32)).toInt = 0 := rfl
  show uOk (m_X12_near_83_s c41 (m_X12_near_83 c41 (FV - 1)) σ l1 l2 l3 l4 0) Q
  unfold m_X12_near_83_s
  refine ok_ite (fun q => absurd (z_lt.mp q) (by rw [h2, k0]; omega)) (fun _ => ?_)
  show uOk (m_X12_near_94_s c41 (m_X12_near_83 c41 (FV - 1)) (m_X12_near_94 c41 (m_X12_near_83 c41 (FV - 1)) (FV - 1)) σ l1 l2 l3 l4 0 (-0)) Q
  refine m_nshift hB hK ht (by rw [hn]; omega) (by rw [hn]; omega) h3 h4 (by rw [k0]; omega) (by rw [hn, k0]; omega) hM hKM (fun σ1 hF1 hg1 v1 hv1 => ?_)
  rw [hn, k0, if_pos rfl] at hv1
  show uOk (m_X12_near_94_s c41 (m_X12_near_83 c41 (FV - 1)) (m_X12_near_94 c41 (m_X12_near_83 c41 (FV - 1)) (FV - 2)) σ1 l1 l2 l3 l4 0 v1) Q
  unfold m_X12_near_94_s
  refine ok_ite (fun _ => ok_l fun v ev => m_n83 hB hK ht hS h2 h3 h4 σ0 kk S (FV - 1) 0 σ1 v (by omega) (by omega) (by rw [ev]; rfl) (hM.fr hF1 (by decide)) (hKM.fr hF1 (by decide)) (hF.tr hF1) (fun e he => ?_)) (fun q => absurd (z_lt.mpr (by rw [k0, hv1]; omega)) q)
  have a1 := hg1 e he
  rw [hn] at a1
  obtain ⟨-, m2, m3⟩ := mu_ok (s := 0) hB hK ht (by omega) (by omega) he
  have hW := wd_B (x := 8) (y := t) (s := 0) hB hK (by omega) (by omega) (by omega) (by omega)
  have h12 : c 8 ≤ 12 := hB.2.1 8 (by omega)
  have hA0 := wlas_b hW (i := 0) (c 8) (by show 0 + c 8 ≤ c 8; omega)
  have hK2 := hK 2 (by omega)
  have hA := mul_b hK2.1 hK2.2 hA0.1 (show wlas (wd c P L K 8 t 0) 0 (c 8) ≤ 768 by omega)
  have a2 := a1.1 (by rw [hG e he]; omega)
  show Gc σ1 e = (bstep (fun s => umu c P L K t s e) (2147483647, 0) 0).1 / 32 ∧ Gf σ1 e = 24 - (bstep (fun s => umu c P L K t s e) (2147483647, 0) 0).1 % 32 ∧ Gs σ1 e = (bstep (fun s => umu c P L K t s e) (2147483647, 0) 0).2
  unfold bstep
  rw [if_pos (by show umu c P L K t 0 e / 32 < 2147483647 / 32; omega)]
  exact a2
end MN
theorem m_n220 {n : Nat} {c : Nat → Nat} {P L : Nat → Nat → Int} {K : Nat → Int} {t S : Nat} {Q : Int32 → SG → Prop} {c41 : SG → Int32 → Int32 → Int32 → Int32 → Option (Int32 × SG)} {l1 l2 l3 l4 : Int32} {kv : Nat × (Nat → Nat → Int)} (hB : NB n c P L) (ht : t < n) (h4 : l4.toInt = t) (hkv : kv.1 + 25 ≤ 200) (σ0 : SG)
    (kk : ∀ σ', frM [9, 5] σ0 σ' → FdM (nends (umu c P L K) S l1.toInt t (c t + 1) kv).1 (nends (umu c P L K) S l1.toInt t (c t + 1) kv).2 σ' → ∀ v : Int32, v.toInt = ((t + 1 : Nat) : Int) → uOk (c41 σ' l1 l2 l3 v) Q) :
    ∀ (r fuel e : Nat) (σ : SG) (l5 : Int32), r < fuel → e + r = c t + 1 → uNM n c P L σ → l5.toInt = e → frM [9, 5] σ0 σ → MBs c t (fun e => bw (fun s => umu c P L K t s e) S) σ → FdM (nends (umu c P L K) S l1.toInt t e kv).1 (nends (umu c P L K) S l1.toInt t e kv).2 σ → uOk (m_X12_near_220 c41 fuel σ l1 l2 l3 l4 l5) Q := by
  have hn := hB.1
  have h24 : c t ≤ 24 := by have := hB.2.1 t (by omega); unfold rcap at this; split at this <;> omega
  intro r
  induction r with
  | zero =>
    intro fuel e σ l5 hf hr hM h5 hF hG hFd
    cases fuel with
    | zero => omega
    | succ fuel =>
      show uOk (m_X12_near_220_s c41 _ σ l1 l2 l3 l4 l5) Q
      unfold m_X12_near_220_s
      rw [z_nv h4]
      exact ok_i (by omega) (ok_ite (fun _ => ok_l fun v ev => kk σ hF (by rw [show c t + 1 = e by omega]; exact hFd) v (by rw [ev, z_add1 (by omega), h4]; rfl)) (fun q => absurd (z_lt.mpr (by rw [hM.2.1 t (by omega), h5]; omega)) q))
  | succ r ih =>
    intro fuel e σ l5 hf hr hM h5 hF hG hFd
    cases fuel with
    | zero => omega
    | succ fuel =>
      show uOk (m_X12_near_220_s c41 _ σ l1 l2 l3 l4 l5) Q
      unfold m_X12_near_220_s
      rw [z_nv h4, z_nv h5]
      obtain ⟨g1, g2, g3⟩ := hG e (by omega)
      have gc : (σ.1 14 e).toInt = (bw (fun s => umu c P L K t s e) S).1 / 32 := g1
      have hb := nends_b (μ := umu c P L K) (S := S) (most := l1.toInt) (t := t) (kv := kv) e
      have nxt : ∀ σ', frM [5] σ σ' → FdM (nends (umu c P L K) S l1.toInt t (e + 1) kv).1 (nends (umu c P L K) S l1.toInt t (e + 1) kv).2 σ' → uOk (m_X12_near_272 c41 (m_X12_near_220 c41 fuel) σ' l1 l2 l3 l4 l5) Q := fun σ' hf5 hfd => by
        unfold m_X12_near_272
        refine ok_l fun v ev => ih fuel (e + 1) σ' v (by omega) (by omega) (hM.fr hf5 (by decide)) (by rw [ev, z_add1 (by omega), h5]; rfl) (hF.tr (hf5.wk (by simp))) (fun x hx => ?_) hfd
        unfold Gc Gf Gs
        rw [hf5.1 14 x (by show (9 : Nat) ∉ _; decide), hf5.1 15 x (by show (9 : Nat) ∉ _; decide), hf5.1 16 x (by show (9 : Nat) ∉ _; decide)]
        exact hG x hx
      refine ok_i (by omega) (ok_ite (fun q => absurd (z_lt.mp q) (by rw [hM.2.1 t (by omega), h5]; omega)) (fun _ => ok_i (by omega) (ok_ite (fun q => nxt σ frM.rf ?_) (fun q => ok_i (by omega) (ok_i (by omega) (ok_i (by omega) (ok_b (m_find1 (k := (nends (umu c P L K) S l1.toInt t e kv).1) (by omega) hFd) (fun _ s30 h30 => nxt s30 h30.2 ?_))))))))
      · rw [z_lt, gc] at q
        show FdM (nrow (umu c P L K) S l1.toInt t e (nends (umu c P L K) S l1.toInt t e kv)).1 (nrow (umu c P L K) S l1.toInt t e (nends (umu c P L K) S l1.toInt t e kv)).2 σ
        unfold nrow
        rw [if_neg (by omega)]
        exact hFd
      · rw [z_lt, gc] at q
        show FdM (nrow (umu c P L K) S l1.toInt t e (nends (umu c P L K) S l1.toInt t e kv)).1 (nrow (umu c P L K) S l1.toInt t e (nends (umu c P L K) S l1.toInt t e kv)).2 s30
        unfold nrow
        rw [if_pos (by omega)]
        have h := h30.1
        have gf : (σ.1 15 e).toInt = 24 - (bw (fun s => umu c P L K t s e) S).1 % 32 := g2
        have gs : (σ.1 16 e).toInt = (bw (fun s => umu c P L K t s e) S).2 := g3
        rw [h4, gf, h5, gc, gs] at h
        exact h
theorem m_n53 {n : Nat} {c : Nat → Nat} {P L : Nat → Nat → Int} {t : Nat} {Q : Int32 → SG → Prop} {c41 : SG → Int32 → Int32 → Int32 → Int32 → Option (Int32 × SG)} {l1 l2 l3 l4 : Int32} (hB : NB n c P L) (ht : t < n) (h4 : l4.toInt = t) (σ0 : SG)
    (kk : ∀ σ', frM [9] σ0 σ' → (∀ e, e ≤ c t → Gc σ' e = 2147483647) → uOk (m_X12_near_83 c41 FV σ' l1 l2 l3 l4 0) Q) :
    ∀ (r fuel e : Nat) (σ : SG) (l5 : Int32), r < fuel → e + r = c t + 1 → uNM n c P L σ → l5.toInt = e → frM [9] σ0 σ → (∀ y, y < e → Gc σ y = 2147483647) → uOk (m_X12_near_53 c41 fuel σ l1 l2 l3 l4 l5) Q := by
  have hn := hB.1
  have h24 : c t ≤ 24 := by have := hB.2.1 t (by omega); unfold rcap at this; split at this <;> omega
  intro r
  induction r with
  | zero =>
    intro fuel e σ l5 hf hr hM h5 hF hG
    cases fuel with
    | zero => omega
    | succ fuel =>
      show uOk (m_X12_near_53_s c41 _ σ l1 l2 l3 l4 l5) Q
      unfold m_X12_near_53_s
      rw [z_nv h4]
      exact ok_i (by omega) (ok_ite (fun _ => kk σ hF (fun y hy => hG y (by omega))) (fun q => absurd (z_lt.mpr (by rw [hM.2.1 t (by omega), h5]; omega)) q))
  | succ r ih =>
    intro fuel e σ l5 hf hr hM h5 hF hG
    cases fuel with
    | zero => omega
    | succ fuel =>
      show uOk (m_X12_near_53_s c41 _ σ l1 l2 l3 l4 l5) Q
      unfold m_X12_near_53_s
      rw [z_nv h4, z_nv h5]
      refine ok_i (by omega) (ok_ite (fun q => absurd (z_lt.mp q) (by rw [hM.2.1 t (by omega), h5]; omega)) (fun _ => ok_i (by omega) (ok_l fun s es => ok_l fun v ev => ?_)))
      have hF1 : frM [9] σ s := by rw [es]; exact frM.rf.sI (by show (9 : Nat) ∈ _; decide)
      refine ih fuel (e + 1) s v (by omega) (by omega) (hM.fr hF1 (by decide)) (by rw [ev, z_add1 (by omega), h5]; rfl) (hF.tr hF1) (fun y hy => ?_)
      unfold Gc
      rw [es, g_sI]
      by_cases q : y = e
      · rw [if_pos ⟨rfl, q⟩]; rfl
      · rw [if_neg (by omega)]; exact hG y (by omega)
theorem m_n41 {n : Nat} {c : Nat → Nat} {P L : Nat → Nat → Int} {K : Nat → Int} {S : Nat} {l1 l2 l3 : Int32} (hB : NB n c P L) (hK : KB K) (h2 : l2.toInt = S) (hS : S ≤ 24) (h3 : l3.toInt = (25 * c 8 : Nat)) :
    ∀ (r fuel t : Nat) (σ : SG) (l4 : Int32), r < fuel → t + r = n → uNM n c P L σ → uKM K σ → l4.toInt = t → FdM (ntun (umu c P L K) S l1.toInt c t).1 (ntun (umu c P L K) S l1.toInt c t).2 σ → uOk (m_X12_near_41 fuel σ l1 l2 l3 l4) (fun v σ' => v.toInt = (ntun (umu c P L K) S l1.toInt c n).1 ∧ frM [9, 5] σ σ' ∧ FdM (ntun (umu c P L K) S l1.toInt c n).1 (ntun (umu c P L K) S l1.toInt c n).2 σ') := by
  have hn := hB.1
  have hc : ∀ r, r < 8 → c r ≤ 24 := fun r hr => by have := hB.2.1 r (by omega); unfold rcap at this; rw [if_neg (by omega)] at this; exact this
  intro r
  induction r with
  | zero =>
    intro fuel t σ l4 hf hr hM hKM h4 hF
    cases fuel with
    | zero => omega
    | succ fuel =>
      show uOk (m_X12_near_41_s _ σ l1 l2 l3 l4) _
      unfold m_X12_near_41_s
      exact ok_ite (fun _ => ok_r (by rw [show n = t by omega]; exact ⟨hF.1, frM.rf, hF⟩)) (fun q => absurd (z_le.mpr (by rw [hM.1, h4]; omega)) q)
  | succ r ih =>
    intro fuel t σ l4 hf hr hM hKM h4 hF
    cases fuel with
    | zero => omega
    | succ fuel =>
      show uOk (m_X12_near_41_s _ σ l1 l2 l3 l4) _
      unfold m_X12_near_41_s
      have hb := ntun_b (μ := umu c P L K) (S := S) (most := l1.toInt) hc t (by omega)
      have hct := hc t (by omega)
      refine ok_ite (fun q => absurd (z_le.mp q) (by rw [hM.1, h4]; omega)) (fun _ => ?_)
      refine m_n53 hB (by omega) h4 σ (fun σ1 hF1 hG1 => ?_) (c t + 1) FV 0 σ 0 (FV_big (by omega)) (by omega) hM rfl frM.rf (fun y hy => by omega)
      refine m_n83_0 hB hK (by omega) hS h2 h3 h4 σ (fun σ2 hF2 hG2 => ?_) (hM.fr hF1 (by decide)) (hKM.fr hF1 (by decide)) hF1 hG1
      refine m_n220 (kv := ntun (umu c P L K) S l1.toInt c t) hB (by omega) h4 (by omega) σ (fun σ3 hF3 hd3 v hv => ?_) (c t + 1) FV 0 σ2 0 (FV_big (by omega)) (by omega) (hM.fr hF2 (by decide)) rfl (hF2.wk (by simp)) hG2 (hF.fr hF2 (by decide))
      exact (ih fuel (t + 1) σ3 v (by omega) (by omega) (hM.fr hF3 (by decide)) (hKM.fr hF3 (by decide)) hv hd3).mono (fun _ s h => ⟨h.1, hF3.tr h.2.1, h.2.2⟩)
theorem m_near {n : Nat} {c : Nat → Nat} {P L : Nat → Nat → Int} {K : Nat → Int} {k : Nat} {v : Nat → Nat → Int} {σ : SG} {p0 p1 : Int32} (hB : NB n c P L) (hK : KB K) (hM0 : uNM n c P L σ) (hKM0 : uKM K σ) (hFd0 : FdM k v σ) : uOk (m_X12_near σ p0 p1) (fun r σ' => r.toInt = (pNear n c P L K k v p0.toInt p1.toInt).1 ∧ FdM (pNear n c P L K k v p0.toInt p1.toInt).2.1 (pNear n c P L K k v p0.toInt p1.toInt).2.2 σ' ∧ frM [11, 9, 5] σ σ') := by
  have k0 : ((0 : Int32)).toInt = 0 := rfl
  have k24 : ((24 : Int32)).toInt = 24 := rfl
  have k25 : ((25 : Int32)).toInt = 25 := rfl
  have n8 : (8 : Int32).toNatClampNeg = 8 := rfl
  have hn := hB.1
  have h12 : c 8 ≤ 12 := hB.2.1 8 (by omega)
  unfold m_X12_near m_X12_near_0 pNear
  refine ok_l fun s0 e0 => ?_
  have hF : frM [11, 9, 5] σ s0 := by rw [e0]; exact m_code.wk (by simp)
  have hM : uNM n c P L s0 := by rw [e0]; exact hM0.fr m_code (by decide)
  have hKM : uKM K s0 := by rw [e0]; exact hKM0.fr m_code (by decide)
  have hFd : FdM k v s0 := by rw [e0]; exact hFd0.fr m_code (by decide)
  refine ok_ite (fun q => ok_r ?_) (fun q1 => ok_ite (fun q => ok_r ?_) (fun q2 => ok_ite (fun q3 => ok_l fun s e => ?_) (fun q => ok_r ?_)))
  · rw [z_lt, k0] at q; rw [if_pos (Or.inl q)]; exact ⟨rfl, hFd, hF⟩
  · rw [z_lt, k0] at q; rw [if_pos (Or.inr (Or.inl q))]; exact ⟨rfl, hFd, hF⟩
  · rw [z_lt, k0] at q1 q2
    rw [z_le, k24] at q3
    rw [if_neg (by omega)]
    have hF0 : frM [11, 9, 5] s0 s := by rw [e]; exact frM.rf.sI (by show (5 : Nat) ∈ _; decide)
    have hM1 := hM.fr hF0 (by decide)
    rw [n8]
    refine ok_i ⟨by decide, by decide⟩ (ok_l fun v9 e9 => ?_)
    have h9 : v9.toInt = (25 * c 8 : Nat) := by rw [e9, z_mulv k25 (hM1.2.1 8 (by omega)) (by omega) (by omega)]; omega
    refine (m_n41 (S := p1.toInt.toNat) hB hK (by omega) (by omega) h9 n FV 0 s 0 (FV_big (by omega)) (by omega) hM1 (hKM.fr hF0 (by decide)) rfl ⟨by rw [e, g_sI_s]; rfl, fun j hj => absurd hj (Nat.not_lt_zero j)⟩).mono (fun r s' h => ⟨h.1, h.2.2, (hF.tr hF0).tr (h.2.1.wk (by simp))⟩)
  · rw [z_le, k24] at q; rw [if_pos (Or.inr (Or.inr (by omega)))]; exact ⟨rfl, hFd, hF⟩
