/-! ===== the model reads a token ===== -/
theorem bm256 {t : Int} (h : 0 ≤ t) (h2 : t < 256) : t.bmod 256 = if t < 128 then t else t - 256 := by
  rw [Int.bmod_def]
  split <;> split <;> omega
theorem m_digit {tc : Nat} {tb : Nat → Int} {σ : SG} (hB : uTB tc tb) (hT : uTM tc tb σ) {k : Nat} {v : Int32} (hv : v.toInt = k) : uOk (m_X12_isDigit σ v) (fun x s => s = σ ∧ (x = 0 ↔ ¬ dgt tc tb k)) := by
  have b := hB.1
  have k48 : ((48 : Int32)).toInt = 48 := rfl
  have k57 : ((57 : Int32)).toInt = 57 := rfl
  unfold m_X12_isDigit m_X12_isDigit_0 dgt
  rw [z_nv hv]
  by_cases q : tc ≤ k
  · rw [if_pos (z_le.mpr (by rw [hT.1, hv]; omega))]
    exact ok_r ⟨rfl, by simp; omega⟩
  · have ht := hT.2 k (by omega)
    have hb := hB.2 k (by omega)
    rw [bm256 hb.1 hb.2] at ht
    refine ok_ite (fun z => absurd (z_le.mp z) (by rw [hT.1, hv]; omega)) (fun _ => ok_i (by omega) (ok_ite (fun z => ok_r ⟨rfl, ?_⟩) (fun z => ok_i (by omega) (ok_ite (fun z2 => ok_r ⟨rfl, ?_⟩) (fun z2 => ok_r ⟨rfl, ?_⟩)))))
    · rw [z_lt, ht, k48] at z; simp; split at z <;> omega
    · rw [z_lt, ht, k57] at z2; simp; split at z2 <;> omega
    · rw [z_lt, ht, k48] at z; rw [z_lt, ht, k57] at z2; simp; split at z <;> omega
def mtk (cd : Int) : Int := if cd = 0 then 0 else if cd = 48 then 1 else if cd = -1 then 3 else 2
/-- only fields x of the object, lo ≤ x < hi, change -/
def frO (lo hi : Nat) (σ σ' : SG) : Prop := (∀ k i, ¬ (k = 0 ∧ lo ≤ i ∧ i < hi) → σ'.1 k i = σ.1 k i) ∧ σ'.2 = σ.2
theorem frO.rf {lo hi : Nat} {σ : SG} : frO lo hi σ σ := ⟨fun _ _ _ => rfl, rfl⟩
theorem frO.tr {lo hi : Nat} {σ σ1 σ2 : SG} (h : frO lo hi σ σ1) (q : frO lo hi σ1 σ2) : frO lo hi σ σ2 := ⟨fun k i z => (q.1 k i z).trans (h.1 k i z), q.2.trans h.2⟩
theorem frO.sI {lo hi : Nat} {σ σ1 : SG} {i : Nat} {x : Int32} (h : frO lo hi σ σ1) (q : lo ≤ i ∧ i < hi) : frO lo hi σ (sI σ1 0 i x) := ⟨fun k' i' z => by rw [g_sI, if_neg (by omega)]; exact h.1 k' i' z, h.2⟩
theorem frO.t {lo hi tc : Nat} {tb : Nat → Int} {σ σ' : SG} (f : frO lo hi σ σ') (h : uTM tc tb σ) (q : 7 < lo) : uTM tc tb σ' := ⟨by rw [f.1 0 7 (by omega)]; exact h.1, fun j hj => by rw [f.1 5 j (by omega)]; exact h.2 j hj⟩
def MTd (σ0 σ : SG) (pl : Nat) (cd vl : Int) (nx : Nat) : Prop := frO 8 12 σ0 σ ∧ (σ.1 0 10).toInt = pl ∧ (σ.1 0 9).toInt = mtk cd ∧ (σ.1 0 8).toInt = nx ∧ (cd = 48 → (σ.1 0 11).toInt = vl) ∧ (mark cd → (σ.1 0 11).toInt = cd)
theorem m_num {tc : Nat} {tb : Nat → Int} (hB : uTB tc tb) {bg : Nat} {l2 : Int32} (σ0 : SG) {Q : Unit → SG → Prop}
    (kk : ∀ (nd : Nat) (σ : SG) (l3 y : Int32), isNum tc tb bg nd → frO 8 12 σ0 σ → σ.1 0 10 = σ0.1 0 10 → (σ.1 0 8).toInt = nd → l3.toInt = (nd - bg : Nat) → (nd - bg ≤ 3 → (σ.1 0 11).toInt = nval tb bg (nd - bg)) → -999 ≤ (σ.1 0 11).toInt → (σ.1 0 11).toInt ≤ 999 → (l2 = 0 → y = σ.1 0 11) → (¬ l2 = 0 → y = -(σ.1 0 11)) → uOk (m_X12_next_218 σ l3 y) Q) :
    ∀ (d fuel k : Nat) (σ : SG) (l3 : Int32), d < fuel → k + d = tc → bg ≤ k → (∀ j, bg ≤ j → j < k → dgt tc tb j) → uTM tc tb σ → frO 8 12 σ0 σ → σ.1 0 10 = σ0.1 0 10 → (σ.1 0 8).toInt = k → l3.toInt = (k - bg : Nat) → (σ.1 0 11).toInt = nval tb bg (if k - bg ≤ 3 then k - bg else 3) → uOk (m_X12_next_138 fuel σ l2 l3) Q := by
  have b := hB.1
  have kn3 : ((3 : Int32)).toInt = 3 := rfl
  have k10 : ((10 : Int32)).toInt = 10 := rfl
  have k48 : ((48 : Int32)).toInt = 48 := rfl
  intro d
  induction d with
  | zero =>
    intro fuel k σ l3 hf hr hbk hdg hT hF hO hn h3 h4
    cases fuel with
    | zero => omega
    | succ fuel =>
      show uOk (m_X12_next_138_s _ σ l2 l3) Q
      unfold m_X12_next_138_s
      have hnb := nval_b (tc := tc) (tb := tb) (bg := bg) (if k - bg ≤ 3 then k - bg else 3) (fun j h1 h2 => hdg j h1 (by split at h2 <;> omega)) (by split <;> omega)
      have hl : -999 ≤ (σ.1 0 11).toInt ∧ (σ.1 0 11).toInt ≤ 999 := by
        rw [h4]
        have := hnb.2
        split at this
        · omega
        · split at this
          · omega
          · split at this <;> omega
      refine ok_b (m_digit hB hT hn) (fun v40 s41 h40 => ?_)
      obtain ⟨rfl, h40⟩ := h40
      have hnd : ¬ dgt tc tb k := fun z => by have := z.1; omega
      refine ok_ite (fun _ => ok_ite (fun z => kk k s41 l3 _ ⟨hbk, hdg, hnd⟩ hF hO hn h3 (fun w => by rw [h4, if_pos w]) hl.1 hl.2 (fun _ => rfl) (fun w => absurd z w)) (fun z => kk k s41 l3 _ ⟨hbk, hdg, hnd⟩ hF hO hn h3 (fun w => by rw [h4, if_pos w]) hl.1 hl.2 (fun w => absurd w z) (fun _ => rfl))) (fun q => absurd (h40.mpr hnd) q)
  | succ d ih =>
    intro fuel k σ l3 hf hr hbk hdg hT hF hO hn h3 h4
    cases fuel with
    | zero => omega
    | succ fuel =>
      show uOk (m_X12_next_138_s _ σ l2 l3) Q
      unfold m_X12_next_138_s
      have hnb := nval_b (tc := tc) (tb := tb) (bg := bg) (if k - bg ≤ 3 then k - bg else 3) (fun j h1 h2 => hdg j h1 (by split at h2 <;> omega)) (by split <;> omega)
      have hl : 0 ≤ (σ.1 0 11).toInt ∧ (σ.1 0 11).toInt ≤ 999 ∧ (k - bg < 3 → (σ.1 0 11).toInt ≤ 99) := by
        rw [h4]
        have h8 := hnb.2
        have h7 := hnb.1
        refine ⟨by omega, ?_, fun z => ?_⟩
        · split at h8
          · omega
          · split at h8
            · omega
            · split at h8 <;> omega
        · rw [if_pos (by omega)] at hnb ⊢
          have h9 := hnb.2
          split at h9
          · omega
          · split at h9
            · omega
            · split at h9 <;> omega
      refine ok_b (m_digit hB hT hn) (fun v40 s41 h40 => ?_)
      obtain ⟨rfl, h40⟩ := h40
      have nxt : ∀ y : Int32, dgt tc tb k → y.toInt = nval tb bg (if k + 1 - bg ≤ 3 then k + 1 - bg else 3) → uOk (m_X12_next_182 (m_X12_next_138 fuel) s41 l2 l3 y) Q := fun y hd hy => by
        unfold m_X12_next_182
        refine ok_l fun s54 e54 => ok_l fun v56 e56 => ok_l fun s58 e58 => ?_
        have hF58 : frO 8 12 s41 s58 := by rw [e58, e54]; exact (frO.rf.sI (by omega)).sI (by omega)
        have c8 : s54.1 0 8 = s41.1 0 8 := by rw [e54, g_sI, if_neg (by omega)]
        exact ih fuel (k + 1) s58 v56 (by omega) (by omega) (by omega) (fun j h1 h2 => by
          by_cases e : j = k
          · rw [e]; exact hd
          · exact hdg j h1 (by omega)) (hF58.t hT (by omega)) (hF.tr hF58) (by rw [e58, g_sI, if_neg (by omega), e54, g_sI, if_neg (by omega)]; exact hO) (by rw [e58, g_sI_s, c8, z_add1 (by omega), hn]; rfl) (by rw [e56, z_add1 (by omega), h3]; omega) (by rw [e58, g_sI, if_neg (by omega), e54, g_sI_s]; exact hy)
      refine ok_ite (fun q => ok_ite (fun z => kk k s41 l3 _ ⟨hbk, hdg, h40.mp q⟩ hF hO hn h3 (fun w => by rw [h4, if_pos w]) (by omega) hl.2.1 (fun _ => rfl) (fun w => absurd z w)) (fun z => kk k s41 l3 _ ⟨hbk, hdg, h40.mp q⟩ hF hO hn h3 (fun w => by rw [h4, if_pos w]) (by omega) hl.2.1 (fun w => absurd w z) (fun _ => rfl))) (fun q => ?_)
      have hd : dgt tc tb k := Classical.not_not.mp (fun z => q (h40.mpr z))
      have hdv := hT.2 k hd.1
      have hd1 := hd.2.1
      have hd2 := hd.2.2
      rw [bm256 (by omega) (by omega), if_pos (by omega)] at hdv
      rw [z_nv hn]
      refine ok_ite (fun q3 => nxt _ hd ?_) (fun q3 => ok_i (by omega) (nxt _ hd ?_))
      · rw [z_le, kn3, h3] at q3
        rw [h4]
        by_cases z : k - bg = 3
        · rw [if_pos (by omega), if_neg (by omega), z]
        · rw [if_neg (by omega), if_neg (by omega)]
      · rw [z_le, kn3, h3] at q3
        have h99 := hl.2.2 (by omega)
        rw [z_subv (z_addv (z_mulv k10 rfl (by omega) (by omega)) hdv (by omega) (by omega)) k48 (by omega) (by omega), h4, if_pos (by omega), if_pos (by omega), show k + 1 - bg = k - bg + 1 by omega]
        show _ = 10 * nval tb bg (k - bg) + tb (bg + (k - bg)) - 48
        rw [show bg + (k - bg) = k by omega]
theorem m_idx {σ : SG} {l3 l4 : Int32} (h3 : l3.toInt = 11) : ∀ (d fuel k : Nat) (l5 : Int32), d < fuel → k + d = 11 → l5.toInt = k → (∀ j, j < k → ¬ sbyt j = l4) → uOk (m_J1_indexOfChar_4cfef_7 fuel σ l3 l4 l5) (fun v s => s = σ ∧ (v < 0 ↔ ∀ j, j < 11 → ¬ sbyt j = l4)) := by
  have k0 : ((0 : Int32)).toInt = 0 := rfl
  intro d
  induction d with
  | zero =>
    intro fuel k l5 hf hr h5 hd
    cases fuel with
    | zero => omega
    | succ fuel =>
      show uOk (m_J1_indexOfChar_4cfef_7_s _ σ l3 l4 l5) _
      unfold m_J1_indexOfChar_4cfef_7_s
      exact ok_ite (fun _ => ok_r ⟨rfl, fun _ j hj => hd j (by omega), fun _ => by decide⟩) (fun q => absurd (z_le.mpr (by rw [h3, h5]; omega)) q)
  | succ d ih =>
    intro fuel k l5 hf hr h5 hd
    cases fuel with
    | zero => omega
    | succ fuel =>
      show uOk (m_J1_indexOfChar_4cfef_7_s _ σ l3 l4 l5) _
      unfold m_J1_indexOfChar_4cfef_7_s
      rw [z_nv h5]
      refine ok_ite (fun q => absurd (z_le.mp q) (by rw [h3, h5]; omega)) (fun _ => ok_i (by omega) (ok_ite (fun q => ok_l fun v ev => ih fuel (k + 1) v (by omega) (by omega) (by rw [ev, z_add1 (by omega), h5]; rfl) (fun j hj => ?_)) (fun q => ok_r ⟨rfl, fun z => ?_, fun z => ?_⟩)))
      · by_cases e : j = k
        · rw [e]; exact q
        · exact hd j (by omega)
      · rw [z_lt, h5, k0] at z; omega
      · exact absurd (Classical.not_not.mp q) (z k (by omega))
theorem m_indexOf {σ : SG} {v : Int32} (h : 0 < v.toInt) (h2 : v.toInt < 128) : uOk (m_J0_indexOf_0f7a4 σ v) (fun x s => s = σ ∧ (x < 0 ↔ ¬ mark v.toInt)) := by
  have k0 : ((0 : Int32)).toInt = 0 := rfl
  have k255 : ((255 : Int32)).toInt = 255 := rfl
  have e8 : (v.toInt8.toInt32) = v := by
    rw [z_eq, Int8.toInt_toInt32, Int32.toInt_toInt8, Int.bmod_def]
    split <;> omega
  unfold m_J0_indexOf_0f7a4 m_J0_indexOf_0f7a4_0 m_J0_indexOf_7cf53 m_J0_indexOf_7cf53_0
  refine ok_b (Q := fun x s => s = σ ∧ (x < 0 ↔ ¬ mark v.toInt)) (ok_b (Q := fun x s => s = σ ∧ x = 1) (ok_r ⟨rfl, rfl⟩) (fun v1 s2 h1 => ?_)) (fun x s h => ok_r h)
  obtain ⟨rfl, rfl⟩ := h1
  refine ok_ite (fun q => absurd q (by decide)) (fun _ => ok_b (Q := fun x s => s = s2 ∧ x = 11) ?_ (fun v8 s9 h8 => ?_))
  · unfold m_J0_length_8abf5 m_J0_length_8abf5_0
    exact ok_b (Q := fun x s => s = s2 ∧ x = 0) (ok_r ⟨rfl, rfl⟩) (fun v1 s h => ok_r ⟨h.1, by rw [h.2]; decide⟩)
  obtain ⟨rfl, rfl⟩ := h8
  unfold m_J1_indexOf_4cfef m_J1_indexOf_4cfef_0
  refine ok_b (Q := fun x s => s = s9 ∧ (x < 0 ↔ ¬ mark v.toInt)) (ok_b (Q := fun x s => s = s9 ∧ x = 1) ?_ (fun v1 s2 h1 => ?_)) (fun x s h => ok_r h)
  · unfold m_J1_canEncode_9a6ad m_J1_canEncode_9a6ad_0
    refine ok_ite (fun q => absurd (z_lt.mp q) (by rw [k0]; omega)) (fun _ => ok_ite (fun q => absurd (z_lt.mp q) (by rw [k255]; omega)) (fun _ => ok_r ⟨rfl, rfl⟩))
  obtain ⟨rfl, rfl⟩ := h1
  refine ok_ite (fun _ => ok_l fun v5 e5 => ok_l fun v7 e7 => ?_) (fun q => absurd (by decide) q)
  have h5 : v5 = 0 := by rw [e5]; decide
  have h7 : v7 = 11 := by rw [e7]; decide
  rw [h5, h7]
  refine ok_ite (fun _ => ok_b (Q := fun x s => s = s2 ∧ (x < 0 ↔ ¬ mark v.toInt)) ?_ (fun x s h => ok_r h)) (fun q => absurd (by decide) q)
  unfold m_J1_indexOfChar_4cfef m_J1_indexOfChar_4cfef_0
  refine ok_l fun w ew => ?_
  rw [e8] at ew
  rw [ew]
  refine (m_idx rfl 11 FV 0 0 (FV_big (by omega)) (by omega) rfl (fun j hj => by omega)).mono (fun x s h' => ⟨h'.1, h'.2.trans ?_⟩)
  have sb : ∀ j, j < 11 → ((sbyt j).toInt = 46 ∨ (sbyt j).toInt = 114 ∨ (sbyt j).toInt = 91 ∨ (sbyt j).toInt = 44 ∨ (sbyt j).toInt = 93 ∨ (sbyt j).toInt = 40 ∨ (sbyt j).toInt = 41 ∨ (sbyt j).toInt = 124 ∨ (sbyt j).toInt = 42 ∨ (sbyt j).toInt = 43 ∨ (sbyt j).toInt = 63) := by decide
  constructor
  · intro z hm
    unfold mark at hm
    have at_ : ∀ (j : Nat) (n : Int), j < 11 → (sbyt j).toInt = n → ¬ v.toInt = n := fun j n hj hs hv => z j hj (z_eq.mpr (by rw [hs, hv]))
    have a0 := at_ 0 46 (by omega) rfl
    have a1 := at_ 1 114 (by omega) rfl
    have a2 := at_ 2 91 (by omega) rfl
    have a3 := at_ 3 44 (by omega) rfl
    have a4 := at_ 4 93 (by omega) rfl
    have a5 := at_ 5 40 (by omega) rfl
    have a6 := at_ 6 41 (by omega) rfl
    have a7 := at_ 7 124 (by omega) rfl
    have a8 := at_ 8 42 (by omega) rfl
    have a9 := at_ 9 43 (by omega) rfl
    have a10 := at_ 10 63 (by omega) rfl
    omega
  · intro z j hj e
    have := sb j hj
    rw [e] at this
    exact z (by unfold mark; omega)
theorem m_next38 {tc : Nat} {tb : Nat → Int} {σ : SG} {u pl : Nat} (hB : uTB tc tb) (hT : uTM tc tb σ) (hs : isSp tc tb u pl) (hn : (σ.1 0 8).toInt = pl) : uOk (m_X12_next_38 σ) (fun _ σ' => ∃ cd vl nx, Tok tc tb u pl cd vl nx ∧ MTd σ σ' pl cd vl nx) := by
  have b := hB.1
  have hpl := hs.2.1
  have k45 : ((45 : Int32)).toInt = 45 := rfl
  have k0 : ((0 : Int32)).toInt = 0 := rfl
  have kn3 : ((3 : Int32)).toInt = 3 := rfl
  have nomark : ∀ z : Int, z = 0 ∨ z = 48 ∨ z = -1 → ¬ mark z := fun z hz hm => by unfold mark at hm; omega
  unfold m_X12_next_38
  refine ok_l fun s6 e6 => ?_
  have hF6 : frO 8 12 σ s6 := by rw [e6]; exact frO.rf.sI (by omega)
  have hT6 := hF6.t hT (by omega)
  have hn6 : (s6.1 0 8).toInt = pl := by rw [e6, g_sI, if_neg (by omega)]; exact hn
  have hp6 : (s6.1 0 10).toInt = pl := by rw [e6, g_sI_s]; exact hn
  rw [z_nv hn6]
  refine ok_ite (fun q => ?_) (fun q => ok_l fun s13 e13 => ok_r ⟨0, 0, pl, ⟨hs, Or.inl ⟨?_, rfl, rfl⟩⟩, ?_⟩)
  · rw [z_eq, hn6, hT6.1] at q
    have hlt : pl < tc := by omega
    have hbyte := hT6.2 pl hlt
    have hbb := hB.2 pl hlt
    rw [bm256 hbb.1 hbb.2] at hbyte
    refine ok_i (by omega) (ok_l fun v10 e10 => ?_)
    have h10 : v10.toInt = if tb pl < 128 then tb pl else tb pl - 256 := by rw [e10]; exact hbyte
    -- no number: a mark or none
    have m238 : ¬ dgt tc tb (bgn tb pl) → uOk (m_X12_next_238 s6 v10) (fun _ σ' => ∃ cd vl nx, Tok tc tb u pl cd vl nx ∧ MTd σ σ' pl cd vl nx) := fun hnd => by
      unfold m_X12_next_238
      refine ok_l fun s25 e25 => ?_
      have fin : ∀ (s0 : Int32) (cd : Int), (mark (tb pl) → cd = tb pl) → (¬ mark (tb pl) → cd = -1) → s0.toInt = mtk cd → (mark cd → v10.toInt = cd) → uOk (m_X12_next_262 s25 s0) (fun _ σ' => ∃ cd vl nx, Tok tc tb u pl cd vl nx ∧ MTd σ σ' pl cd vl nx) := fun s0 cd h1 h2 h3 h4 => by
        unfold m_X12_next_262
        refine ok_l fun s36 e36 => ok_l fun s38 e38 => ok_r ⟨cd, 0, pl + 1, ⟨hs, Or.inr (Or.inr ⟨hlt, hnd, rfl, h1, h2⟩)⟩, ?_⟩
        have c8 : s36.1 0 8 = s6.1 0 8 := by rw [e36, g_sI, if_neg (by omega), e25, g_sI, if_neg (by omega)]
        refine ⟨by rw [e38, e36, e25]; exact ((hF6.sI (by omega)).sI (by omega)).sI (by omega), ?_, ?_, ?_, fun z => ?_, fun z => ?_⟩
        · rw [e38, g_sI, if_neg (by omega), e36, g_sI, if_neg (by omega), e25, g_sI, if_neg (by omega)]; exact hp6
        · rw [e38, g_sI, if_neg (by omega), e36, g_sI_s]; exact h3
        · rw [e38, g_sI_s, c8, z_add1 (by omega), hn6]; rfl
        · exfalso
          by_cases y : mark (tb pl)
          · have := h1 y
            rw [← this, z] at y
            exact nomark 48 (by omega) y
          · have := h2 y; omega
        · rw [e38, g_sI, if_neg (by omega), e36, g_sI, if_neg (by omega), e25, g_sI_s]; exact h4 z
      have none : ¬ mark (tb pl) → ∀ s, s = s25 → uOk (m_X12_next_261 s) (fun _ σ' => ∃ cd vl nx, Tok tc tb u pl cd vl nx ∧ MTd σ σ' pl cd vl nx) := fun hm s es => by
        rw [es]
        unfold m_X12_next_261
        exact fin 3 (-1) (fun z => absurd z hm) (fun _ => rfl) (by decide) (fun z => absurd z (nomark _ (by omega)))
      refine ok_ite (fun z => none (fun hm => ?_) s25 rfl) (fun z => ?_)
      · rw [z_le, h10, k0] at z
        unfold mark at hm
        split at z <;> omega
      · rw [z_le, h10, k0] at z
        have hsm : tb pl < 128 := by split at z <;> omega
        rw [if_pos hsm] at h10 z
        refine ok_b (m_indexOf (by omega) (by omega)) (fun v28 s29 h28 => ?_)
        obtain ⟨rfl, h28⟩ := h28
        rw [h10] at h28
        refine ok_ite (fun y => none (h28.mp y) s29 rfl) (fun y => ?_)
        have hm : mark (tb pl) := Classical.not_not.mp (fun w => y (h28.mpr w))
        refine fin 2 (tb pl) (fun _ => rfl) (fun w => absurd hm w) ?_ (fun _ => h10)
        unfold mtk
        unfold mark at hm
        rw [if_neg (by omega), if_neg (by omega), if_neg (by omega)]
        rfl
    have m113 : dgt tc tb (bgn tb pl) → ∀ l2 : Int32, (l2 = 0 ↔ ¬ tb pl = 45) → uOk (m_X12_next_113 s6 l2) (fun _ σ' => ∃ cd vl nx, Tok tc tb u pl cd vl nx ∧ MTd σ σ' pl cd vl nx) := fun hd l2 hl2 => by
      have hbt := hd.1
      have hbp : pl ≤ bgn tb pl := by unfold bgn; split <;> omega
      have m127 : ∀ s0 : Int32, (s6.1 0 8 + s0).toInt = bgn tb pl → uOk (m_X12_next_127 s6 l2 s0 (s6.1 0 8)) (fun _ σ' => ∃ cd vl nx, Tok tc tb u pl cd vl nx ∧ MTd σ σ' pl cd vl nx) := fun s0 hs0 => by
        unfold m_X12_next_127
        refine ok_l fun s32 e32 => ok_l fun s34 e34 => ?_
        have hF34 : frO 8 12 s6 s34 := by rw [e34, e32]; exact (frO.rf.sI (by omega)).sI (by omega)
        refine m_num hB s34 (fun nd σ' l3 y hnum hF' hO' hn' hl3 hv' hlo hhi hy1 hy2 => ?_) (tc - bgn tb pl) FV (bgn tb pl) s34 0 (FV_big (by omega)) (by omega) (Nat.le_refl _) (fun j h1 h2 => by omega) (hF34.t hT6 (by omega)) frO.rf rfl (by rw [e34, g_sI, if_neg (by omega), e32, g_sI_s]; exact hs0) (by rw [Nat.sub_self]; rfl) (by rw [if_pos (by omega), Nat.sub_self, e34, g_sI_s]; rfl)
        unfold m_X12_next_218
        refine ok_l fun s47 e47 => ?_
        have hyv : y.toInt = if tb pl = 45 then -(σ'.1 0 11).toInt else (σ'.1 0 11).toInt := by
          by_cases w : tb pl = 45
          · rw [if_pos w, hy2 (fun z => hl2.mp z w)]; exact z_negv rfl (by omega)
          · rw [if_neg w, hy1 (hl2.mpr w)]
        have base : ∀ (s : SG) (x : Int32) (cd : Int), s = sI s47 0 9 x → x.toInt = mtk cd → (nd - bgn tb pl ≤ 3 → cd = 48) → (3 < nd - bgn tb pl → cd = -1) → ∃ cd vl nx, Tok tc tb u pl cd vl nx ∧ MTd σ s pl cd vl nx := fun s x cd es hx h48 hm1 => by
          refine ⟨cd, y.toInt, nd, ⟨hs, Or.inr (Or.inl ⟨hlt, hd, hnum, fun z => ⟨h48 z, by rw [hyv, hv' z]⟩, hm1⟩)⟩, ?_, ?_, ?_, ?_, fun _ => ?_, fun z => ?_⟩
          · rw [es, e47]; exact (((hF6.tr hF34).tr hF').sI (by omega)).sI (by omega)
          · rw [es, g_sI, if_neg (by omega), e47, g_sI, if_neg (by omega), hO', e34, g_sI, if_neg (by omega), e32, g_sI, if_neg (by omega)]; exact hp6
          · rw [es, g_sI_s]; exact hx
          · rw [es, g_sI, if_neg (by omega), e47, g_sI, if_neg (by omega)]; exact hn'
          · rw [es, g_sI, if_neg (by omega), e47, g_sI_s]
          · exfalso
            by_cases w : nd - bgn tb pl ≤ 3
            · exact nomark cd (Or.inr (Or.inl (h48 w))) z
            · exact nomark cd (Or.inr (Or.inr (hm1 (by omega)))) z
        refine ok_ite (fun z => ok_l fun s50 e50 => ok_r (base s50 1 48 e50 (by decide) (fun _ => rfl) (fun w => ?_))) (fun z => ok_l fun s52 e52 => ok_r (base s52 3 (-1) e52 (by decide) (fun w => ?_) (fun _ => rfl)))
        · rw [z_le, hl3, kn3] at z; omega
        · rw [z_le, hl3, kn3] at z; omega
      unfold m_X12_next_113
      refine ok_ite (fun z => m127 0 ?_) (fun z => m127 1 ?_)
      · rw [z_addv hn6 k0 (by omega) (by omega)]; unfold bgn; rw [if_neg (hl2.mp z)]; omega
      · have w : tb pl = 45 := Classical.not_not.mp (fun y => z (hl2.mpr y))
        rw [z_add1 (by omega), hn6]; unfold bgn; rw [if_pos w]; rfl
    have m84 : ∀ l2 : Int32, (l2 = 0 ↔ ¬ tb pl = 45) → uOk (m_X12_next_84 s6 v10 l2) (fun _ σ' => ∃ cd vl nx, Tok tc tb u pl cd vl nx ∧ MTd σ σ' pl cd vl nx) := fun l2 hl2 => by
      unfold m_X12_next_84
      refine ok_b (m_digit hB hT6 hn6) (fun v15 s16 h15 => ?_)
      obtain ⟨rfl, h15⟩ := h15
      refine ok_ite (fun z => ?_) (fun z => ok_ite (fun w => m238 ?_) (fun w => ?_))
      · have hd : dgt tc tb pl := Classical.not_not.mp (fun y => z (h15.mpr y))
        have h45 : ¬ tb pl = 45 := fun y => by have := hd.2.1; omega
        exact m113 (by unfold bgn; rw [if_neg h45]; exact hd) l2 hl2
      · unfold bgn; rw [if_neg (hl2.mp w)]; exact h15.mp (Classical.not_not.mp z)
      · have h45 : tb pl = 45 := Classical.not_not.mp (fun y => w (hl2.mpr y))
        have e81 : (s16.1 0 8 + 1).toInt = (pl + 1 : Nat) := by rw [z_add1 (by omega), hn6]; rfl
        refine ok_b (m_digit hB hT6 e81) (fun v20 s21 h20 => ?_)
        obtain ⟨rfl, h20⟩ := h20
        refine ok_ite (fun y => m238 ?_) (fun y => m113 ?_ l2 hl2)
        · unfold bgn; rw [if_pos h45]; exact h20.mp y
        · unfold bgn; rw [if_pos h45]; exact Classical.not_not.mp (fun x => y (h20.mpr x))
    refine ok_ite (fun z => m84 0 ?_) (fun z => m84 1 ?_)
    · rw [z_eq, h10, k45] at z
      have : ¬ tb pl = 45 := fun y => z (by rw [if_pos (by omega)]; exact y)
      simp [this]
    · rw [z_eq, h10, k45, Classical.not_not] at z
      have : tb pl = 45 := by split at z <;> omega
      simp [this]
  · rw [z_eq, hn6, hT6.1, Classical.not_not] at q; omega
  · refine ⟨by rw [e13]; exact hF6.sI (by omega), ?_, ?_, ?_, fun z => by omega, fun z => absurd z (nomark _ (by omega))⟩
    · rw [e13, g_sI, if_neg (by omega)]; exact hp6
    · rw [e13, g_sI_s]; decide
    · rw [e13, g_sI, if_neg (by omega)]; exact hn6
theorem m_next_l {tc : Nat} {tb : Nat → Int} {u : Nat} (hB : uTB tc tb) : ∀ (d fuel k : Nat) (σ0 σ : SG), d < fuel → k + d = tc → u ≤ k → (∀ j, u ≤ j → j < k → tb j = 32) → uTM tc tb σ → frO 8 12 σ0 σ → (σ.1 0 8).toInt = k → uOk (m_X12_next_0 fuel σ) (fun _ σ' => ∃ pl cd vl nx, Tok tc tb u pl cd vl nx ∧ MTd σ0 σ' pl cd vl nx) := by
  have b := hB.1
  have k32 : ((32 : Int32)).toInt = 32 := rfl
  intro d
  induction d with
  | zero =>
    intro fuel k σ0 σ hf hr huk hsp hT hF hn
    cases fuel with
    | zero => omega
    | succ fuel =>
      show uOk (m_X12_next_0_s _ σ) _
      unfold m_X12_next_0_s
      refine ok_ite (fun _ => (m_next38 hB hT ⟨huk, by omega, hsp, fun z => by omega⟩ hn).mono (fun _ s h => ?_)) (fun q => absurd (z_le.mpr (by rw [hT.1, hn]; omega)) q)
      obtain ⟨cd, vl, nx, h1, h2, h3⟩ := h
      exact ⟨k, cd, vl, nx, h1, hF.tr h2, h3⟩
  | succ d ih =>
    intro fuel k σ0 σ hf hr huk hsp hT hF hn
    cases fuel with
    | zero => omega
    | succ fuel =>
      show uOk (m_X12_next_0_s _ σ) _
      unfold m_X12_next_0_s
      rw [z_nv hn]
      have hb := hT.2 k (by omega)
      have hbb := hB.2 k (by omega)
      rw [bm256 hbb.1 hbb.2] at hb
      refine ok_ite (fun q => absurd (z_le.mp q) (by rw [hT.1, hn]; omega)) (fun _ => ok_i (by omega) (ok_ite (fun q => (m_next38 hB hT ⟨huk, by omega, hsp, fun _ y => q (by rw [z_eq, hb, k32, if_pos (by omega)]; exact y)⟩ hn).mono (fun _ s h => ?_)) (fun q => ok_l fun s4 e4 => ?_)))
      · obtain ⟨cd, vl, nx, h1, h2, h3⟩ := h
        exact ⟨k, cd, vl, nx, h1, hF.tr h2, h3⟩
      · rw [z_eq, hb, k32, Classical.not_not] at q
        have q' : tb k = 32 := by split at q <;> omega
        have hF4 : frO 8 12 σ s4 := by rw [e4]; exact frO.rf.sI (by omega)
        exact ih fuel (k + 1) σ0 s4 (by omega) (by omega) (by omega) (fun j h1 h2 => by
          by_cases e : j = k
          · rw [e]; exact q'
          · exact hsp j h1 (by omega)) (hF4.t hT (by omega)) (hF.tr hF4) (by rw [e4, g_sI_s, z_add1 (by omega), hn]; rfl)
theorem m_next {tc : Nat} {tb : Nat → Int} {u : Nat} {σ : SG} (hB : uTB tc tb) (hT : uTM tc tb σ) (hn : (σ.1 0 8).toInt = u) (hu : u ≤ tc) : uOk (m_X12_next σ) (fun _ σ' => ∃ pl cd vl nx, Tok tc tb u pl cd vl nx ∧ MTd σ σ' pl cd vl nx) :=
  m_next_l hB (tc - u) FV u σ σ (FV_big (by have := hB.1; omega)) (by omega) (Nat.le_refl _) (fun j h1 h2 => by omega) hT frO.rf hn
