/-! ===== type ===== -/
theorem uand255 (v : Int32) : (v &&& 255).toInt = v.toInt % 256 := by
  have h : (v &&& 255).toBitVec = v.toBitVec &&& 255#32 := rfl
  have e : (v &&& 255).toBitVec.toNat = v.toBitVec.toNat % 256 := by
    rw [h, BitVec.toNat_and]
    exact Nat.and_two_pow_sub_one_eq_mod _ 8
  have e1 : (v &&& 255).toInt = (v &&& 255).toBitVec.toInt := rfl
  have e2 : v.toInt = v.toBitVec.toInt := rfl
  rw [e1, e2, BitVec.toInt_eq_toNat_cond, BitVec.toInt_eq_toNat_cond, e]
  have := v.toBitVec.isLt
  split <;> split <;> omega
theorem u64_nat (w : Int64) : (w.toUInt64.toNat : Int) = w.toInt % 18446744073709551616 := by
  have e2 : w.toInt = w.toBitVec.toInt := rfl
  have : w.toUInt64.toNat = w.toBitVec.toNat := rfl
  rw [this, e2, BitVec.toInt_eq_toNat_cond]
  have := w.toBitVec.isLt
  split <;> omega
theorem i64_u (u : UInt64) : u.toInt64.toInt % 256 = (u.toNat : Int) % 256 := by
  have e1 : u.toInt64.toInt = u.toBitVec.toInt := rfl
  have e2 : u.toNat = u.toBitVec.toNat := rfl
  rw [e1, e2, BitVec.toInt_eq_toNat_cond]
  have := u.toBitVec.isLt
  split <;> omega
theorem bmod_mod (x : Int) : x.bmod (2 ^ 32) % 256 = x % 256 := by
  rw [Int.bmod_def]
  split <;> omega
/-- the byte k of w, from the right -/
def byt (w : Int64) (k : Nat) : Int := w.toInt / 2 ^ (8 * k) % 256
theorem byt_x (w : Int64) (s : UInt64) (k : Nat) (hk : k < 8) (hs : s.toNat = 8 * k) : (((w.toUInt64 >>> s).toInt64).toInt32 &&& 255).toInt = byt w k := by
  rw [uand255, Int64.toInt_toInt32, bmod_mod, i64_u, UInt64.toNat_shiftRight, hs, Nat.mod_eq_of_lt (by omega), Nat.shiftRight_eq_div_pow]
  rw [Int.natCast_ediv, u64_nat]
  unfold byt
  have hc : k = 0 ∨ k = 1 ∨ k = 2 ∨ k = 3 ∨ k = 4 ∨ k = 5 ∨ k = 6 ∨ k = 7 := by omega
  rcases hc with rfl | rfl | rfl | rfl | rfl | rfl | rfl | rfl <;> simp <;> omega
theorem byt_m (w : Int64) (s : Int64) (k : Nat) (hk : k < 8) (hs : s.toBitVec.smod 64 = BitVec.ofNat 64 (8 * k)) : (((w >>> s).toInt32).toInt8.toInt32).toInt8.toInt32.toInt = (byt w k).bmod 256 := by
  have e1 : (w >>> s).toInt = w.toInt / 2 ^ (8 * k) := by
    show (BitVec.sshiftRight' w.toBitVec (s.toBitVec.smod 64)).toInt = _
    rw [hs, BitVec.sshiftRight_eq', BitVec.toInt_sshiftRight, BitVec.toNat_ofNat, Nat.mod_eq_of_lt (by omega), Int.shiftRight_eq_div_pow]
    rfl
  rw [Int8.toInt_toInt32, Int32.toInt_toInt8, Int8.toInt_toInt32, Int32.toInt_toInt8, Int64.toInt_toInt32, e1]
  unfold byt
  generalize w.toInt / 2 ^ (8 * k) = z
  simp only [Int.bmod_def]
  split <;> split <;> split <;> split <;> omega
def uTB (c : Nat) (t : Nat → Int) : Prop := c ≤ 160 ∧ ∀ j, j < c → 0 ≤ t j ∧ t j < 256
def TX (c : Nat) (t : Nat → Int) (σ : SG) : Prop := (σ.1 165 1).toInt = c ∧ ∀ j, j < c → (σ.1 19 j).toInt = t j
def uTM (c : Nat) (t : Nat → Int) (σ : SG) : Prop := (σ.1 0 7).toInt = c ∧ ∀ j, j < c → (σ.1 5 j).toInt = (t j).bmod 256
theorem TX.fr {c : Nat} {t : Nat → Int} {G : List Nat} {σ σ' : SG} (h : TX c t σ) (f : frX G σ σ') (q : 2 ∉ G) : TX c t σ' := ⟨by rw [f.1 165 1 q]; exact h.1, fun j hj => by rw [f.1 19 j q]; exact h.2 j hj⟩
theorem uTM.fr {c : Nat} {t : Nat → Int} {G : List Nat} {σ σ' : SG} (h : uTM c t σ) (f : frM G σ σ') (q : 2 ∉ G) : uTM c t σ' := ⟨by rw [f.1 0 7 q]; exact h.1, fun j hj => by rw [f.1 5 j q]; exact h.2 j hj⟩
def tpz (w : Int64) : Nat → Nat → (Nat → Int) → Nat × (Nat → Int)
  | 0, c, t => (c, t)
  | k + 1, c, t => tpz w k (c + 1) (va_up t c (byt w k))
theorem byt_b (w : Int64) (k : Nat) : 0 ≤ byt w k ∧ byt w k < 256 := by unfold byt; omega
theorem tpz_B (w : Int64) : ∀ (k c : Nat) (t : Nat → Int), uTB c t → c + k ≤ 160 → uTB (tpz w k c t).1 (tpz w k c t).2 ∧ (tpz w k c t).1 = c + k
  | 0, c, t, h, _ => ⟨h, rfl⟩
  | k + 1, c, t, h, q => by
    have ih := tpz_B w k (c + 1) (va_up t c (byt w k)) ⟨by omega, fun j hj => by
      unfold va_up
      split
      · exact byt_b w k
      · exact h.2 j (by omega)⟩ (by omega)
    exact ⟨ih.1, by rw [show (tpz w (k + 1) c t).1 = (tpz w k (c + 1) (va_up t c (byt w k))).1 from rfl, ih.2]; omega⟩
theorem sh_l {l4 : Int32} {k : Nat} (h : l4.toInt = k) (hk : k < 8) : l4 = Int32.ofNat k := by
  rw [z_eq, h, Int32.toInt_ofNat_of_lt (by omega)]
theorem sh_u {l4 : Int32} {k : Nat} (h : l4.toInt = k) (hk : k < 8) : ((8 * l4).toInt64.toUInt64 &&& Int64.toUInt64 63).toNat = 8 * k := by
  rw [sh_l h hk]
  have hc : k = 0 ∨ k = 1 ∨ k = 2 ∨ k = 3 ∨ k = 4 ∨ k = 5 ∨ k = 6 ∨ k = 7 := by omega
  rcases hc with rfl | rfl | rfl | rfl | rfl | rfl | rfl | rfl <;> decide
theorem sh_i {l4 : Int32} {k : Nat} (h : l4.toInt = k) (hk : k < 8) : ((8 * l4).toInt64 &&& 63).toBitVec.smod 64 = BitVec.ofNat 64 (8 * k) := by
  rw [sh_l h hk]
  have hc : k = 0 ∨ k = 1 ∨ k = 2 ∨ k = 3 ∨ k = 4 ∨ k = 5 ∨ k = 6 ∨ k = 7 := by omega
  rcases hc with rfl | rfl | rfl | rfl | rfl | rfl | rfl | rfl <;> decide
theorem z_addm1 {a : Int32} (h : -2147483648 < a.toInt) : (a + (-1)).toInt = a.toInt - 1 := by
  rw [z_add] <;> rw [show ((-1 : Int32)).toInt = -1 from rfl]
  · omega
  · omega
  · have := z_hi a; omega
theorem x_append (w : Int64) : ∀ (k fuel c : Nat) (t : Nat → Int) (σ : SG) (l4 : Int32), k < fuel → l4.toInt = (k : Int) - 1 → c + k ≤ 160 → k ≤ 8 → TX c t σ → uOk (m_X7_append_5 fuel σ w l4) (fun _ σ' => TX (tpz w k c t).1 (tpz w k c t).2 σ' ∧ frX [2] σ σ')
  | 0, fuel + 1, c, t, σ, l4, _, hl, hc, _, hX => by
    show uOk (m_X7_append_5_s (m_X7_append_5 fuel) σ w l4) _
    unfold m_X7_append_5_s
    exact ok_ite (fun q => ok_r ⟨hX, frX.rf⟩) (fun q => absurd (z_lt.mpr (by rw [hl, show ((0 : Int32)).toInt = 0 from rfl]; omega)) q)
  | k + 1, fuel + 1, c, t, σ, l4, hf, hl, hc, hk, hX => by
    show uOk (m_X7_append_5_s (m_X7_append_5 fuel) σ w l4) _
    have hl' : l4.toInt = (k : Int) := by omega
    have hn : (σ.1 165 1).toNatClampNeg = c := by rw [z_nat, hX.1]; omega
    unfold m_X7_append_5_s
    refine ok_ite (fun q => absurd (z_lt.mp q) (by rw [hl', show ((0 : Int32)).toInt = 0 from rfl]; omega)) (fun _ => ok_i (by rw [hX.1]; omega) ?_)
    rw [hn]
    refine ok_l fun s1 e1 => ok_l fun s2 e2 => ok_l fun v ev => ?_
    have w1 : s1.1 165 1 = σ.1 165 1 := by rw [e1, g_sI, if_neg (by omega)]
    have hX2 : TX (c + 1) (va_up t c (byt w k)) s2 := by
      refine ⟨by rw [e2, g_sI_s, w1, z_add1 (by rw [hX.1]; omega), hX.1]; rfl, fun j hj => ?_⟩
      rw [e2, g_sI, if_neg (by omega), e1, g_sI]
      unfold va_up
      by_cases h : j = c
      · rw [if_pos ⟨rfl, h⟩, if_pos h]; exact byt_x w _ k (by omega) (sh_u hl' (by omega))
      · rw [if_neg (fun z => h z.2), if_neg h]; exact hX.2 j (by omega)
    have hF : frX [2] σ s2 := by rw [e2, e1]; exact (frX.rf.sI (k := 19) (by show (2 : Nat) ∈ _; decide)).sI (by show (2 : Nat) ∈ _; decide)
    exact (x_append w k fuel (c + 1) _ s2 v (by omega) (by rw [ev, z_addm1 (by omega), hl']) (by omega) (by omega) hX2).mono (fun _ s h => ⟨h.1, hF.tr h.2⟩)
theorem m_type_l (w : Int64) : ∀ (k fuel c : Nat) (t : Nat → Int) (σ : SG) (l4 : Int32), k < fuel → l4.toInt = (k : Int) - 1 → c + k ≤ 160 → k ≤ 8 → uTM c t σ → uOk (m_X12_type_39 fuel σ w l4) (fun r σ' => r.toInt = (c + k : Nat) ∧ uTM (tpz w k c t).1 (tpz w k c t).2 σ' ∧ frM [2] σ σ')
  | 0, fuel + 1, c, t, σ, l4, _, hl, hc, _, hX => by
    show uOk (m_X12_type_39_s (m_X12_type_39 fuel) σ w l4) _
    unfold m_X12_type_39_s
    exact ok_ite (fun q => ok_r ⟨hX.1, hX, frM.rf⟩) (fun q => absurd (z_lt.mpr (by rw [hl, show ((0 : Int32)).toInt = 0 from rfl]; omega)) q)
  | k + 1, fuel + 1, c, t, σ, l4, hf, hl, hc, hk, hX => by
    show uOk (m_X12_type_39_s (m_X12_type_39 fuel) σ w l4) _
    have hl' : l4.toInt = (k : Int) := by omega
    have hn : (σ.1 0 7).toNatClampNeg = c := by rw [z_nat, hX.1]; omega
    unfold m_X12_type_39_s
    refine ok_ite (fun q => absurd (z_lt.mp q) (by rw [hl', show ((0 : Int32)).toInt = 0 from rfl]; omega)) (fun _ => ok_i (by rw [hX.1]; omega) ?_)
    rw [hn]
    refine ok_l fun s1 e1 => ok_l fun s2 e2 => ok_l fun v ev => ?_
    have w1 : s1.1 0 7 = σ.1 0 7 := by rw [e1, g_sI, if_neg (by omega)]
    have hX2 : uTM (c + 1) (va_up t c (byt w k)) s2 := by
      refine ⟨by rw [e2, g_sI_s, w1, z_add1 (by rw [hX.1]; omega), hX.1]; rfl, fun j hj => ?_⟩
      rw [e2, g_sI, if_neg (by omega), e1, g_sI]
      unfold va_up
      by_cases h : j = c
      · rw [if_pos ⟨rfl, h⟩, if_pos h]; exact byt_m w _ k (by omega) (sh_i hl' (by omega))
      · rw [if_neg (fun z => h z.2), if_neg h]; exact hX.2 j (by omega)
    have hF : frM [2] σ s2 := by rw [e2, e1]; exact (frM.rf.sI (k := 5) (by show (2 : Nat) ∈ _; decide)).sI (by show (2 : Nat) ∈ _; decide)
    exact (m_type_l w k fuel (c + 1) _ s2 v (by omega) (by rw [ev, z_addm1 (by omega), hl']) (by omega) (by omega) hX2).mono (fun _ s h => ⟨by rw [h.1]; omega, h.2.1, hF.tr h.2.2⟩)
def sType (c : Nat) (t : Nat → Int) (w : Int64) (n : Int) : Int × Nat × (Nat → Int) := if n < 1 ∨ 8 < n then (-2, c, t) else if 160 < c + n then (-3, c, t) else (c + n, tpz w n.toNat c t)
theorem uTB.type {c : Nat} {t : Nat → Int} {w : Int64} {n : Int} (h : uTB c t) : uTB (sType c t w n).2.1 (sType c t w n).2.2 := by
  unfold sType
  split
  · exact h
  · split
    · exact h
    · exact (tpz_B w n.toNat c t h (by omega)).1
def pType (c : Nat) (t : Nat → Int) (w : Int64) (n : Int) (TZ : Nat → (Nat → Int) → SG → Prop) (F : SG → Prop) (r : Int32) (σ' : SG) : Prop := r.toInt = (sType c t w n).1 ∧ TZ (sType c t w n).2.1 (sType c t w n).2.2 σ' ∧ F σ'
theorem FV_big {n : Nat} (h : n < 1000000) : n < FV := Nat.lt_trans h (by decide)
theorem x_type {c : Nat} {t : Nat → Int} {σ : SG} {w : Int64} {n : Int32} (hB : uTB c t) (hX : TX c t σ) : uOk (m_X11_type σ w n) (pType c t w n.toInt TX (frX [2] σ)) := by
  have k8 : ((8 : Int32)).toInt = 8 := rfl
  have k1 : ((1 : Int32)).toInt = 1 := rfl
  have k6 : ((160 : Int32)).toInt = 160 := rfl
  have hb := hB.1
  unfold m_X11_type m_X11_type_0
  refine ok_ite (fun q => ok_r ?_) (fun q1 => ok_ite (fun q2 => ?_) (fun q => ok_r ?_))
  · unfold pType sType; rw [if_pos (Or.inl (show n.toInt < 1 from z_lt.mp q))]; exact ⟨rfl, hX, frX.rf⟩
  · rw [z_lt, k1] at q1
    rw [z_le, k8] at q2
    have hs : (σ.1 165 1 + n).toInt = c + n.toInt := by rw [z_add, hX.1] <;> rw [hX.1] <;> omega
    refine ok_b (Q := fun v s => s = σ ∧ (v = 0 ↔ 160 < c + n.toInt)) ?_ (fun v s ⟨es, hv⟩ => ?_)
    · unfold m_X7_hasRoomFor m_X7_hasRoomFor_0
      refine ok_ite (fun q => ok_r ⟨rfl, ?_⟩) (fun q => ok_r ⟨rfl, ?_⟩)
      · rw [z_lt, hs, k6] at q; simp; omega
      · rw [z_lt, hs, k6] at q; simp; omega
    subst es
    refine ok_ite (fun q => ?_) (fun q => ok_r ?_)
    · have hq : ¬ 160 < c + n.toInt := fun z => q (hv.mpr z)
      unfold m_X7_append m_X7_append_0
      refine ok_b (Q := fun _ σ' => TX (tpz w n.toInt.toNat c t).1 (tpz w n.toInt.toNat c t).2 σ' ∧ frX [2] s σ') (ok_l fun v1 e1 => ?_) (fun a s' h => ok_r ?_)
      · exact x_append w n.toInt.toNat FV c t s v1 (FV_big (by omega)) (by rw [e1, z_sub1 (by omega)]; omega) (by omega) (by omega) hX
      · unfold pType sType
        rw [if_neg (by omega), if_neg hq]
        refine ⟨?_, h.1, h.2⟩
        rw [h.1.1, (tpz_B w _ c t hB (by omega)).2]
        show _ = (c : Int) + n.toInt
        omega
    · have hq : 160 < c + n.toInt := hv.mp (Classical.not_not.mp q)
      unfold pType sType; rw [if_neg (by omega), if_pos hq]; exact ⟨rfl, hX, frX.rf⟩
  · rw [z_le, k8] at q
    unfold pType sType; rw [if_pos (Or.inr (by omega))]; exact ⟨rfl, hX, frX.rf⟩
theorem m_type {c : Nat} {t : Nat → Int} {σ : SG} {w : Int64} {n : Int32} (hB : uTB c t) (hX0 : uTM c t σ) : uOk (m_X12_type σ w n) (pType c t w n.toInt uTM (frM [11, 2] σ)) := by
  have k8 : ((8 : Int32)).toInt = 8 := rfl
  have k1 : ((1 : Int32)).toInt = 1 := rfl
  have k6 : ((160 : Int32)).toInt = 160 := rfl
  have hb := hB.1
  unfold m_X12_type m_X12_type_0
  refine ok_l fun s0 e0 => ?_
  have hX : uTM c t s0 := by rw [e0]; exact hX0.fr m_code (by decide)
  have hF : frM [11, 2] σ s0 := by rw [e0]; exact m_code.wk (by simp)
  refine ok_ite (fun q => ok_r ?_) (fun q1 => ok_ite (fun q2 => ?_) (fun q => ok_r ?_))
  · unfold pType sType; rw [if_pos (Or.inl (show n.toInt < 1 from z_lt.mp q))]; exact ⟨rfl, hX, hF⟩
  · rw [z_lt, k1] at q1
    rw [z_le, k8] at q2
    have hs : (s0.1 0 7 + n).toInt = c + n.toInt := by rw [z_add, hX.1] <;> rw [hX.1] <;> omega
    refine ok_ite (fun q => ok_l fun v1 e1 => ?_) (fun q => ok_r ?_)
    · rw [z_le, hs, k6] at q
      refine (m_type_l w n.toInt.toNat FV c t s0 v1 (FV_big (by omega)) (by rw [e1, z_sub1 (by omega)]; omega) (by omega) (by omega) hX).mono (fun r s' h => ?_)
      unfold pType sType
      rw [if_neg (by omega), if_neg (by omega)]
      refine ⟨?_, h.2.1, hF.tr (h.2.2.wk (by simp))⟩
      rw [h.1]
      show _ = (c : Int) + n.toInt
      omega
    · rw [z_le, hs, k6] at q
      unfold pType sType; rw [if_neg (by omega), if_pos (by omega)]; exact ⟨rfl, hX, hF⟩
  · rw [z_le, k8] at q
    unfold pType sType; rw [if_pos (Or.inr (by omega))]; exact ⟨rfl, hX, hF⟩
