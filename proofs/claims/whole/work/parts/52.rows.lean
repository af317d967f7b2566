/-! ===== tune, note, query, forget ===== -/
def sAdd (c : Nat → Nat) (P L : Nat → Nat → Int) (r : Nat) (p l : Int) : Int × (Nat → Nat) × (Nat → Nat → Int) × (Nat → Nat → Int) :=
  if p < -1 ∨ 127 < p ∨ l < 1 ∨ 64 < l then (-2, c, P, L) else if c r = rcap r then (-3, c, P, L) else (c r + 1, va_up c r (c r + 1), va_up P r (va_up (P r) (c r) p), va_up L r (va_up (L r) (c r) l))
theorem NB.add {n : Nat} {c : Nat → Nat} {P L : Nat → Nat → Int} {r : Nat} {p l : Int} (h : NB n c P L) (hr : r < n ∨ r = 8) : NB n (sAdd c P L r p l).2.1 (sAdd c P L r p l).2.2.1 (sAdd c P L r p l).2.2.2 := by
  unfold sAdd
  split
  · exact h
  · split
    · exact h
    · obtain ⟨h1, h2, h3, h4⟩ := h
      have := h2 r (by omega)
      refine ⟨h1, fun k hk => ?_, fun k hk hn => ?_, fun k j hk hj => ?_⟩
      · show va_up c r (c r + 1) k ≤ _
        unfold va_up
        split
        · subst k; omega
        · exact h2 k hk
      · show va_up c r (c r + 1) k = 0
        unfold va_up
        rw [if_neg (by omega)]
        exact h3 k hk hn
      · have hj : j < va_up c r (c r + 1) k := hj
        show -1 ≤ va_up P r (va_up (P r) (c r) p) k j ∧ va_up P r (va_up (P r) (c r) p) k j ≤ 127 ∧ 1 ≤ va_up L r (va_up (L r) (c r) l) k j ∧ va_up L r (va_up (L r) (c r) l) k j ≤ 64
        unfold va_up at hj ⊢
        by_cases hkr : k = r
        · subst k
          simp only [if_pos] at hj ⊢
          by_cases hjc : j = c r
          · simp only [hjc, if_pos]; omega
          · simp only [if_neg hjc]; exact h4 r j hk (by omega)
        · simp only [if_neg hkr] at hj ⊢
          exact h4 k j hk hj
theorem va_up2 {α : Type} {F : Nat → Nat → α} {r i k j : Nat} {x : α} : va_up F r (va_up (F r) i x) k j = if k = r ∧ j = i then x else F k j := by
  unfold va_up
  by_cases h : k = r
  · subst k; by_cases h2 : j = i <;> simp [h2]
  · simp [h]
theorem lenX_row {r : Nat} (h : r < 9) : lenX (2 * r) = rcap r ∧ lenX (2 * r + 1) = rcap r := by
  unfold lenX rcap
  grind
theorem rgX_row {r i : Nat} (h : r < 9) : rgX (2 * r) i = 0 ∧ rgX (2 * r + 1) i = 0 ∧ rgX (156 + r) i = 0 := by
  unfold rgX
  grind
theorem nI_z {n : Nat} (h : n < 2147483648) : (nI n).toInt = n := by
  unfold nI
  rw [Int32.toInt_ofNat_of_lt h]
def pAdd (n : Nat) (c : Nat → Nat) (P L : Nat → Nat → Int) (r : Nat) (p l : Int) (NZ : Nat → (Nat → Nat) → (Nat → Nat → Int) → (Nat → Nat → Int) → SG → Prop) (F : SG → Prop) (v : Int32) (σ' : SG) : Prop := v.toInt = (sAdd c P L r p l).1 ∧ NZ n (sAdd c P L r p l).2.1 (sAdd c P L r p l).2.2.1 (sAdd c P L r p l).2.2.2 σ' ∧ F σ'
theorem pAdd_bad {n : Nat} {c : Nat → Nat} {P L : Nat → Nat → Int} {r : Nat} {p l : Int} {NZ : Nat → (Nat → Nat) → (Nat → Nat → Int) → (Nat → Nat → Int) → SG → Prop} {F : SG → Prop} {σ : SG} (h : p < -1 ∨ 127 < p ∨ l < 1 ∨ 64 < l) (hN : NZ n c P L σ) (hF : F σ) : pAdd n c P L r p l NZ F (-2) σ := by
  unfold pAdd sAdd
  rw [if_pos h]
  exact ⟨rfl, hN, hF⟩
theorem pAdd_full {n : Nat} {c : Nat → Nat} {P L : Nat → Nat → Int} {r : Nat} {p l : Int} {NZ : Nat → (Nat → Nat) → (Nat → Nat → Int) → (Nat → Nat → Int) → SG → Prop} {F : SG → Prop} {σ : SG} (h : ¬ (p < -1 ∨ 127 < p ∨ l < 1 ∨ 64 < l)) (h2 : c r = rcap r) (hN : NZ n c P L σ) (hF : F σ) : pAdd n c P L r p l NZ F (-3) σ := by
  unfold pAdd sAdd
  rw [if_neg h, if_pos h2]
  exact ⟨rfl, hN, hF⟩
theorem x_addNote {n : Nat} {c : Nat → Nat} {P L : Nat → Nat → Int} {σ : SG} {r : Nat} {p l : Int32} (hB : NB n c P L) (hX : uNX n c P L σ) (hr : r < 9) :
    uOk (m_X11_addNote r σ p l) (pAdd n c P L r p.toInt l.toInt uNX (frX [0] σ)) := by
  obtain ⟨x1, x2, x3⟩ := id hX
  have hc := x2 r hr
  have hcap := hB.2.1 r hr
  have hcap2 : rcap r < 25 := by unfold rcap; split <;> omega
  obtain ⟨l1, l2⟩ := lenX_row hr
  obtain ⟨g1, g2, g3⟩ := @rgX_row r (c r) hr
  have g3' := (@rgX_row r 2 hr).2.2
  have hn : (σ.1 (156 + r) 2).toNatClampNeg = c r := by rw [z_nat, hc]; omega
  refine ok_ite (fun q => ok_r (pAdd_bad (Or.inl (z_lt.mp q)) hX frX.rf)) (fun q1 => ?_)
  refine ok_ite (fun q => ok_r (pAdd_bad (Or.inr (Or.inl (z_lt.mp q))) hX frX.rf)) (fun q2 => ?_)
  refine ok_ite (fun q => ok_r (pAdd_bad (Or.inr (Or.inr (Or.inl (z_lt.mp q)))) hX frX.rf)) (fun q3 => ?_)
  refine ok_ite (fun q4 => ?_) (fun q => ok_r (pAdd_bad (Or.inr (Or.inr (Or.inr (Int.not_le.mp (fun z => q (z_le.mpr z)))))) hX frX.rf))
  have hbad : ¬ (p.toInt < -1 ∨ 127 < p.toInt ∨ l.toInt < 1 ∨ 64 < l.toInt) := by
    rw [z_lt] at q1 q2 q3
    rw [z_le] at q4
    have k1 : ((-1 : Int32)).toInt = -1 := rfl
    have k2 : ((127 : Int32)).toInt = 127 := rfl
    have k3 : ((1 : Int32)).toInt = 1 := rfl
    have k4 : ((64 : Int32)).toInt = 64 := rfl
    omega
  refine ok_b (Q := fun v σ1 => σ1 = σ ∧ (v = 0 ↔ c r < rcap r)) ?_ (fun v σ1 ⟨e, hv⟩ => ?_)
  · unfold m_X4_isFull m_X4_isFull_0
    rw [l1]
    refine ok_ite (fun q => ok_r ⟨rfl, ?_⟩) (fun q => ok_r ⟨rfl, ?_⟩)
    · rw [z_lt, nI_z (by omega), hc] at q; simp; omega
    · rw [z_lt, nI_z (by omega), hc] at q; simp; omega
  subst e
  refine ok_ite (fun q => ?_) (fun q => ok_r (pAdd_full hbad (by have h9 : ¬ c r < rcap r := fun z => q (hv.mpr z); omega) hX frX.rf))
  have hlt := hv.mp q
  have hs : (σ1.1 (156 + r) 2 + 1).toInt = c r + 1 := by rw [z_add1 (by omega), hc]
  have w1 : (sI σ1 (2 * r) (c r) p).1 (156 + r) 2 = σ1.1 (156 + r) 2 := by rw [g_sI, if_neg (by omega)]
  have w2 : (sI (sI σ1 (2 * r) (c r) p) (2 * r + 1) (c r) l).1 (156 + r) 2 = σ1.1 (156 + r) 2 := by rw [g_sI, if_neg (by omega), w1]
  refine ok_b (Q := fun _ σ2 => σ2 = sI (sI (sI σ1 (2 * r) (c r) p) (2 * r + 1) (c r) l) (156 + r) 2 (σ1.1 (156 + r) 2 + 1)) ?_ (fun _ σ2 e => ?_)
  · unfold m_X4_append m_X4_append_0
    rw [l1, l2, hn]
    refine ok_i (by omega) (ok_l fun s2 e2 => ?_)
    rw [← e2] at w1 w2
    rw [w1, hn]
    refine ok_i (by omega) (ok_l fun s3 e3 => ok_l fun s4 e4 => ok_r ?_)
    rw [← e3] at w2
    rw [e4, w2, e3, e2]
  rw [e]
  refine ok_r ?_
  unfold pAdd sAdd
  rw [if_neg hbad, if_neg (by omega)]
  refine ⟨by rw [g_sI_s, hs], ⟨?_, fun k hk => ?_, fun k j hk hj => ?_⟩, ?_⟩
  · rw [g_sI, if_neg (by omega), g_sI, if_neg (by omega), g_sI, if_neg (by omega)]; exact x1
  · show _ = ((va_up c r (c r + 1) k : Nat) : Int)
    unfold va_up
    rw [g_sI]
    by_cases hkr : k = r
    · subst k; rw [if_pos ⟨rfl, rfl⟩, hs]; simp
    · rw [if_neg (by omega), g_sI, if_neg (by omega), g_sI, if_neg (by omega), if_neg hkr]; exact x2 k hk
  · have hj : j < va_up c r (c r + 1) k := hj
    show _ = va_up P r (va_up (P r) (c r) p.toInt) k j ∧ _ = va_up L r (va_up (L r) (c r) l.toInt) k j
    have hjk : ¬ (k = r ∧ j = c r) → j < c k := fun hkj => by
      unfold va_up at hj
      split at hj
      · subst k; omega
      · exact hj
    refine ⟨?_, ?_⟩
    · rw [g_sI, if_neg (by omega), g_sI, if_neg (by omega), g_sI, va_up2]
      by_cases hkj : k = r ∧ j = c r
      · rw [if_pos hkj, if_pos (by omega)]
      · rw [if_neg hkj, if_neg (by have := hjk hkj; omega)]
        exact (x3 k j hk (hjk hkj)).1
    · rw [g_sI, if_neg (by omega), g_sI, va_up2]
      by_cases hkj : k = r ∧ j = c r
      · rw [if_pos hkj, if_pos (by omega)]
      · rw [if_neg hkj, if_neg (by have := hjk hkj; omega), g_sI, if_neg (by omega)]
        exact (x3 k j hk (hjk hkj)).2
  · exact ((frX.rf.sI (by rw [g1]; decide)).sI (by rw [g2]; decide)).sI (by rw [g3']; decide)
theorem m_add {n : Nat} {c : Nat → Nat} {P L : Nat → Nat → Int} {σ : SG} {r : Nat} {k p l m : Int32} (hB : NB n c P L) (hX : uNM n c P L σ) (hr : r < 9) (hk : k.toInt = r) (hm : m.toInt = rcap r) :
    uOk (m_X12_add σ k p l m) (pAdd n c P L r p.toInt l.toInt uNM (frM [0] σ)) := by
  obtain ⟨x1, x2, x3⟩ := id hX
  have hc := x2 r hr
  have hcap := hB.2.1 r hr
  have hcap2 : rcap r < 25 := by unfold rcap; split <;> omega
  have hkn : k.toNatClampNeg = r := by rw [z_nat, hk]; omega
  refine ok_ite (fun q => ok_r (pAdd_bad (Or.inl (z_lt.mp q)) hX frM.rf)) (fun q1 => ?_)
  refine ok_ite (fun q => ok_r (pAdd_bad (Or.inr (Or.inl (z_lt.mp q))) hX frM.rf)) (fun q2 => ?_)
  refine ok_ite (fun q => ok_r (pAdd_bad (Or.inr (Or.inr (Or.inl (z_lt.mp q)))) hX frM.rf)) (fun q3 => ?_)
  refine ok_ite (fun q4 => ?_) (fun q => ok_r (pAdd_bad (Or.inr (Or.inr (Or.inr (Int.not_le.mp (fun z => q (z_le.mpr z)))))) hX frM.rf))
  have hbad : ¬ (p.toInt < -1 ∨ 127 < p.toInt ∨ l.toInt < 1 ∨ 64 < l.toInt) := by
    rw [z_lt] at q1 q2 q3
    rw [z_le] at q4
    have k1 : ((-1 : Int32)).toInt = -1 := rfl
    have k2 : ((127 : Int32)).toInt = 127 := rfl
    have k3 : ((1 : Int32)).toInt = 1 := rfl
    have k4 : ((64 : Int32)).toInt = 64 := rfl
    omega
  rw [hkn]
  have e24 : ((24 : Int32)).toInt = 24 := rfl
  have h24 : (24 * k).toInt = 24 * r := by rw [z_mul, e24, hk] <;> rw [e24, hk] <;> omega
  have h25 : (24 * k + σ.1 3 r).toInt = 24 * r + c r := by rw [z_add, h24, hc] <;> rw [h24, hc] <;> omega
  have h26 : (24 * k + σ.1 3 r).toNatClampNeg = 24 * r + c r := by rw [z_nat, h25]; omega
  refine ok_i (by omega) (ok_ite (fun q => ?_) (fun q => ok_r (pAdd_full hbad ?_ hX frM.rf)))
  rotate_left
  · have q : σ.1 3 r = m := Classical.not_not.mp q
    rw [z_eq, hc, hm] at q
    omega
  have hlt : c r < rcap r := by
    rw [z_eq, hc, hm] at q
    omega
  refine ok_i (by omega) (ok_i (by rw [h25]; omega) (ok_l fun s2 e2 => ?_))
  rw [h26] at e2
  have w1 : s2.1 3 r = σ.1 3 r := by rw [e2, g_sI, if_neg (by omega)]
  rw [w1, h26]
  refine ok_i (by omega) (ok_i (by rw [h25]; omega) (ok_l fun s3 e3 => ?_))
  have w2 : s3.1 3 r = σ.1 3 r := by rw [e3, g_sI, if_neg (by omega), w1]
  rw [w2]
  refine ok_i (by omega) (ok_i (by omega) (ok_l fun s4 e4 => ok_i (by omega) (ok_r ?_)))
  have hs : (σ.1 3 r + 1).toInt = c r + 1 := by rw [z_add1 (by omega), hc]
  rw [e4, e3, e2]
  unfold pAdd sAdd
  rw [if_neg hbad, if_neg (by omega)]
  refine ⟨by rw [g_sI_s, hs], ⟨?_, fun k hk => ?_, fun k j hk hj => ?_⟩, ((frM.rf.sI (k := 1) (by show (0 : Nat) ∈ _; decide)).sI (k := 2) (by show (0 : Nat) ∈ _; decide)).sI (k := 3) (by show (0 : Nat) ∈ _; decide)⟩
  · rw [g_sI, if_neg (by omega), g_sI, if_neg (by omega), g_sI, if_neg (by omega)]; exact x1
  · show _ = ((va_up c r (c r + 1) k : Nat) : Int)
    unfold va_up
    rw [g_sI]
    by_cases hkr : k = r
    · subst k; rw [if_pos ⟨rfl, rfl⟩, hs]; simp
    · rw [if_neg (by omega), g_sI, if_neg (by omega), g_sI, if_neg (by omega), if_neg hkr]; exact x2 k hk
  · have hj : j < va_up c r (c r + 1) k := hj
    show _ = va_up P r (va_up (P r) (c r) p.toInt) k j ∧ _ = va_up L r (va_up (L r) (c r) l.toInt) k j
    have hjk : ¬ (k = r ∧ j = c r) → j < c k := fun hkj => by
      unfold va_up at hj
      split at hj
      · subst k; omega
      · exact hj
    have hck := hB.2.1 k hk
    have hcap3 : rcap k < 25 := by unfold rcap; split <;> omega
    refine ⟨?_, ?_⟩
    · rw [g_sI, if_neg (by omega), g_sI, if_neg (by omega), g_sI, va_up2]
      by_cases hkj : k = r ∧ j = c r
      · rw [if_pos hkj, if_pos (by omega)]
      · rw [if_neg hkj, if_neg (by have := hjk hkj; omega)]
        exact (x3 k j hk (hjk hkj)).1
    · rw [g_sI, if_neg (by omega), g_sI, va_up2]
      by_cases hkj : k = r ∧ j = c r
      · rw [if_pos hkj, if_pos (by omega)]
      · rw [if_neg hkj, if_neg (by have := hjk hkj; omega), g_sI, if_neg (by omega)]
        exact (x3 k j hk (hjk hkj)).2
theorem x_isTune {n : Nat} {c : Nat → Nat} {P L : Nat → Nat → Int} {σ : SG} (hX : uNX n c P L σ) (t : Int32) : ∃ v, m_X11_isTune σ t = some (v, σ) ∧ (v = 0 ↔ ¬ (0 ≤ t.toInt ∧ t.toInt < n)) := by
  have h1 := hX.1
  unfold m_X11_isTune m_X11_isTune_0
  have k0 : ((0 : Int32)).toInt = 0 := rfl
  by_cases a : t < 0
  · rw [if_pos a]; refine ⟨0, rfl, ?_⟩; rw [z_lt, k0] at a; simp; omega
  · rw [if_neg a]
    rw [z_lt, k0] at a
    by_cases b : σ.1 155 1 ≤ t
    · rw [if_pos b]; refine ⟨0, rfl, ?_⟩; rw [z_le, h1] at b; simp; omega
    · rw [if_neg b]; refine ⟨1, rfl, ?_⟩; rw [z_le, h1] at b; simp; omega
theorem m_isTune {n : Nat} {c : Nat → Nat} {P L : Nat → Nat → Int} {σ : SG} (hX : uNM n c P L σ) (t : Int32) : ∃ v, m_X12_isTune σ t = some (v, sI σ 0 0 0) ∧ (v = 0 ↔ ¬ (0 ≤ t.toInt ∧ t.toInt < n)) := by
  have h1 : ((sI σ 0 0 0).1 0 4).toInt = n := by rw [g_sI, if_neg (by omega)]; exact hX.1
  unfold m_X12_isTune m_X12_isTune_0
  simp only [lS]
  have k0 : ((0 : Int32)).toInt = 0 := rfl
  by_cases a : t < 0
  · rw [if_pos a]; refine ⟨0, rfl, ?_⟩; rw [z_lt, k0] at a; simp; omega
  · rw [if_neg a]
    rw [z_lt, k0] at a
    by_cases b : (sI σ 0 0 0).1 0 4 ≤ t
    · rw [if_pos b]; refine ⟨0, rfl, ?_⟩; rw [z_le, h1] at b; simp; omega
    · rw [if_neg b]; refine ⟨1, rfl, ?_⟩; rw [z_le, h1] at b; simp; omega
/-- what every call of the model does first -/
theorem m_code {σ : SG} {x : Int32} : frM [11] σ (sI σ 0 0 x) := frM.rf.sI (List.mem_singleton.mpr rfl)
theorem bi_some {α β : Type} {x : α} {σ : SG} {f : α → SG → Option β} : bi (some (x, σ)) f = f x σ := rfl
def pTune (n : Nat) (c : Nat → Nat) (P L : Nat → Nat → Int) (NZ : Nat → (Nat → Nat) → (Nat → Nat → Int) → (Nat → Nat → Int) → SG → Prop) (F : SG → Prop) (v : Int32) (σ' : SG) : Prop := v.toInt = (if n = 8 then (-3 : Int) else (n : Int)) ∧ NZ (if n = 8 then 8 else n + 1) c P L σ' ∧ F σ'
theorem NB.tune {n : Nat} {c : Nat → Nat} {P L : Nat → Nat → Int} (h : NB n c P L) : NB (if n = 8 then 8 else n + 1) c P L := by
  obtain ⟨h1, h2, h3, h4⟩ := h
  exact ⟨by split <;> omega, h2, fun r hr hn => h3 r hr (by split at hn <;> omega), h4⟩
theorem x_tune {n : Nat} {c : Nat → Nat} {P L : Nat → Nat → Int} {σ : SG} (hB : NB n c P L) (hX : uNX n c P L σ) : uOk (m_X11_tune σ) (pTune n c P L uNX (frX [0] σ)) := by
  obtain ⟨x1, x2, x3⟩ := id hX
  have hn := hB.1
  have k0 : ((8 : Int32)).toInt = 8 := rfl
  have hs : (σ.1 155 1 + 1).toInt = n + 1 := by rw [z_add1 (by omega), x1]
  refine ok_ite (fun q => ok_l fun s e => ok_r ?_) (fun q => ok_r ?_)
  · rw [z_lt, x1, k0] at q
    unfold pTune
    rw [if_neg (by omega), if_neg (by omega), e]
    have w : (sI σ 155 1 (σ.1 155 1 + 1)).1 155 1 = σ.1 155 1 + 1 := g_sI_s
    refine ⟨by rw [w, z_sub1 (by omega), hs]; omega, ⟨by rw [w, hs]; rfl, fun r hr => ?_, fun r j hr hj => ?_⟩, frX.rf.sI (List.mem_singleton.mpr rfl)⟩
    · rw [g_sI, if_neg (by omega)]; exact x2 r hr
    · rw [g_sI, if_neg (by omega), g_sI, if_neg (by omega)]; exact x3 r j hr hj
  · rw [z_lt, x1, k0] at q
    have : n = 8 := by omega
    subst this
    exact ⟨rfl, hX, frX.rf⟩
theorem m_tune {n : Nat} {c : Nat → Nat} {P L : Nat → Nat → Int} {σ : SG} (hB : NB n c P L) (hX : uNM n c P L σ) : uOk (m_X12_tune σ) (pTune n c P L uNM (frM [11, 0] σ)) := by
  have hn := hB.1
  have k0 : ((8 : Int32)).toInt = 8 := rfl
  unfold m_X12_tune m_X12_tune_0
  refine ok_l fun s e => ?_
  have hF : frM [11, 0] σ s := by rw [e]; exact m_code.wk (by simp)
  have hX1 : uNM n c P L s := by rw [e]; exact hX.fr m_code (by decide)
  obtain ⟨x1, x2, x3⟩ := id hX1
  have hs : (s.1 0 4 + 1).toInt = n + 1 := by rw [z_add1 (by omega), x1]
  have hq : s.1 0 4 = 8 ↔ n = 8 := by rw [z_eq, x1, k0]; omega
  have hw : (s.1 0 4).toNatClampNeg = n := by rw [z_nat, x1]; omega
  refine ok_ite (fun q => ?_) (fun q => ok_r ?_)
  · have q1 : n ≠ 8 := fun z => q (hq.mpr z)
    rw [hw]
    refine ok_i (by omega) (ok_l fun s2 e2 => ?_)
    have w1 : s2.1 0 4 = s.1 0 4 := by rw [e2, g_sI, if_neg (by omega)]
    rw [w1]
    refine ok_l fun s3 e3 => ok_r ?_
    have w2 : s3.1 0 4 = s.1 0 4 + 1 := by rw [e3]; exact g_sI_s
    unfold pTune
    rw [if_neg q1, if_neg q1]
    refine ⟨by rw [w2, z_sub1 (by omega), hs]; omega, ⟨by rw [w2, hs]; rfl, fun r hr => ?_, fun r j hr hj => ?_⟩, ?_⟩
    · rw [e3, g_sI, if_neg (by omega), e2, g_sI]
      split
      · rename_i h
        rw [h.2, hB.2.2.1 n (by omega) (by omega)]
        rfl
      · exact x2 r hr
    · rw [e3, g_sI, if_neg (by omega), e2, g_sI, if_neg (by omega), g_sI, if_neg (by omega), g_sI, if_neg (by omega)]; exact x3 r j hr hj
    · rw [e3, e2]
      exact (hF.sI (by show (0 : Nat) ∈ _; decide)).sI (by show (0 : Nat) ∈ _; decide)
  · have : n = 8 := hq.mp (Classical.not_not.mp q)
    subst this
    exact ⟨rfl, hX1, hF⟩
