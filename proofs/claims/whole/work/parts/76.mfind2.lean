/-! ===== the model's find ===== -/
theorem sh_u32 {x : Int32} {n : Nat} {s : UInt32} (hx : 0 ≤ x.toInt) (hs : s.toNat = n) (hn : n < 32) (h1 : 1 ≤ n) : ((x.toUInt32 >>> s).toInt32).toInt = x.toInt / 2 ^ n := by
  have e1 : (x.toUInt32.toNat : Int) = x.toInt := by
    have h8 : x.toInt = x.toBitVec.toInt := rfl
    have e : x.toUInt32.toNat = x.toBitVec.toNat := rfl
    rw [e, h8]
    rw [h8] at hx
    have h9 := BitVec.toInt_eq_toNat_cond x.toBitVec
    have := x.toBitVec.isLt
    split at h9 <;> omega
  have e2 : (x.toUInt32 >>> s).toNat = x.toUInt32.toNat / 2 ^ n := by
    rw [UInt32.toNat_shiftRight, hs, Nat.mod_eq_of_lt hn, Nat.shiftRight_eq_div_pow]
  have hlt : (x.toUInt32 >>> s).toNat < 2147483648 := by
    rw [e2]
    have := z_hi x
    have h3 : x.toUInt32.toNat < 2147483648 := by omega
    exact Nat.lt_of_le_of_lt (Nat.div_le_self _ _) h3
  have e3 : ((x.toUInt32 >>> s).toInt32).toInt = ((x.toUInt32 >>> s).toNat : Int) := by
    have a : ((x.toUInt32 >>> s).toInt32).toInt = (x.toUInt32 >>> s).toBitVec.toInt := rfl
    have b : (x.toUInt32 >>> s).toNat = (x.toUInt32 >>> s).toBitVec.toNat := rfl
    rw [a, b, BitVec.toInt_eq_toNat_cond, if_pos (by rw [b] at hlt; omega)]
  rw [e3, e2, Int.natCast_ediv, e1]
  norm_cast
/-- 31 - the zeros before v is the place of its highest bit -/
theorem m_nlz {σ : SG} {v : Int32} {h : Nat} (hh : h < 31) (h1 : (2 : Int) ^ h ≤ v.toInt) (h2 : v.toInt < (2 : Int) ^ (h + 1)) : uOk (m_J6_numberOfLeadingZeros_0f7a4 σ v) (fun r s => s = σ ∧ r.toInt = 31 - h) := by
  have u16 : ((16 : Int32).toUInt32 &&& Int32.toUInt32 31).toNat = 16 := by decide
  have u8 : ((8 : Int32).toUInt32 &&& Int32.toUInt32 31).toNat = 8 := by decide
  have u4 : ((4 : Int32).toUInt32 &&& Int32.toUInt32 31).toNat = 4 := by decide
  have u2 : ((2 : Int32).toUInt32 &&& Int32.toUInt32 31).toNat = 2 := by decide
  have u1 : ((1 : Int32).toUInt32 &&& Int32.toUInt32 31).toNat = 1 := by decide
  have m73 : ∀ (l0 l1 : Int32) (k : Nat), k < 2 → (2 : Int) ^ k ≤ l0.toInt → l0.toInt < (2 : Int) ^ (k + 1) → l1.toInt = 31 - h + k → uOk (m_J6_numberOfLeadingZeros_0f7a4_73 σ l0 l1) (fun r s => s = σ ∧ r.toInt = 31 - h) := by
    intro l0 l1 k hk a b c
    unfold m_J6_numberOfLeadingZeros_0f7a4_73
    have hc : k = 0 ∨ k = 1 := by omega
    have e := sh_u32 (x := l0) (n := 1) (s := (1 : Int32).toUInt32 &&& Int32.toUInt32 31) (by rcases hc with rfl | rfl <;> simp at a b <;> omega) u1 (by omega) (by omega)
    refine ok_r ⟨rfl, ?_⟩
    have : l0.toInt / 2 ^ 1 = k := by rcases hc with rfl | rfl <;> simp at a b ⊢ <;> omega
    rw [this] at e
    rw [z_subv c e (by omega) (by omega)]
    omega
  have m61 : ∀ (l0 l1 : Int32) (k : Nat), k < 4 → (2 : Int) ^ k ≤ l0.toInt → l0.toInt < (2 : Int) ^ (k + 1) → l1.toInt = 31 - h + k → uOk (m_J6_numberOfLeadingZeros_0f7a4_61 σ l0 l1) (fun r s => s = σ ∧ r.toInt = 31 - h) := by
    intro l0 l1 k hk a b c
    unfold m_J6_numberOfLeadingZeros_0f7a4_61
    have hc : k = 0 ∨ k = 1 ∨ k = 2 ∨ k = 3 := by omega
    refine ok_ite (fun q => m73 l0 l1 k ?_ a b c) (fun q => ok_l fun v19 e19 => ok_l fun v21 e21 => m73 v21 v19 (k - 2) ?_ ?_ ?_ ?_)
    · rw [z_lt, show ((4 : Int32)).toInt = 4 from rfl] at q
      rcases hc with rfl | rfl | rfl | rfl <;> simp at a b <;> omega
    all_goals
      rw [z_lt, show ((4 : Int32)).toInt = 4 from rfl] at q
    · omega
    · rw [e21, sh_u32 (n := 2) (by omega) u2 (by omega) (by omega)]
      rcases hc with rfl | rfl | rfl | rfl <;> simp at a b ⊢ <;> omega
    · rw [e21, sh_u32 (n := 2) (by omega) u2 (by omega) (by omega)]
      rcases hc with rfl | rfl | rfl | rfl <;> simp at a b ⊢ <;> omega
    · rw [e19, z_addv c (show ((-2 : Int32)).toInt = -2 from rfl) (by omega) (by omega)]
      rcases hc with rfl | rfl | rfl | rfl <;> simp at a b ⊢ <;> omega
  have m48 : ∀ (l0 l1 : Int32) (k : Nat), k < 8 → (2 : Int) ^ k ≤ l0.toInt → l0.toInt < (2 : Int) ^ (k + 1) → l1.toInt = 31 - h + k → uOk (m_J6_numberOfLeadingZeros_0f7a4_48 σ l0 l1) (fun r s => s = σ ∧ r.toInt = 31 - h) := by
    intro l0 l1 k hk a b c
    unfold m_J6_numberOfLeadingZeros_0f7a4_48
    have hc : k = 0 ∨ k = 1 ∨ k = 2 ∨ k = 3 ∨ k = 4 ∨ k = 5 ∨ k = 6 ∨ k = 7 := by omega
    refine ok_ite (fun q => m61 l0 l1 k ?_ a b c) (fun q => ok_l fun v19 e19 => ok_l fun v21 e21 => m61 v21 v19 (k - 4) ?_ ?_ ?_ ?_)
    · rw [z_lt, show ((16 : Int32)).toInt = 16 from rfl] at q
      rcases hc with rfl | rfl | rfl | rfl | rfl | rfl | rfl | rfl <;> simp at a b <;> omega
    all_goals
      rw [z_lt, show ((16 : Int32)).toInt = 16 from rfl] at q
    · omega
    · rw [e21, sh_u32 (n := 4) (by omega) u4 (by omega) (by omega)]
      rcases hc with rfl | rfl | rfl | rfl | rfl | rfl | rfl | rfl <;> simp at a b ⊢ <;> omega
    · rw [e21, sh_u32 (n := 4) (by omega) u4 (by omega) (by omega)]
      rcases hc with rfl | rfl | rfl | rfl | rfl | rfl | rfl | rfl <;> simp at a b ⊢ <;> omega
    · rw [e19, z_addv c (show ((-4 : Int32)).toInt = -4 from rfl) (by omega) (by omega)]
      rcases hc with rfl | rfl | rfl | rfl | rfl | rfl | rfl | rfl <;> simp at a b ⊢ <;> omega
  have m33 : ∀ (l0 l1 : Int32) (k : Nat), k < 16 → (2 : Int) ^ k ≤ l0.toInt → l0.toInt < (2 : Int) ^ (k + 1) → l1.toInt = 31 - h + k → uOk (m_J6_numberOfLeadingZeros_0f7a4_33 σ l0 l1) (fun r s => s = σ ∧ r.toInt = 31 - h) := by
    intro l0 l1 k hk a b c
    unfold m_J6_numberOfLeadingZeros_0f7a4_33
    have hc : k < 8 ∨ k = 8 ∨ k = 9 ∨ k = 10 ∨ k = 11 ∨ k = 12 ∨ k = 13 ∨ k = 14 ∨ k = 15 := by omega
    have lo : k < 8 → l0.toInt < 256 := fun z => by
      have : (2 : Int) ^ (k + 1) ≤ 2 ^ 8 := by exact_mod_cast Nat.pow_le_pow_right (by omega) (by omega : k + 1 ≤ 8)
      omega
    refine ok_ite (fun q => m48 l0 l1 k ?_ a b c) (fun q => ok_l fun v19 e19 => ok_l fun v21 e21 => m48 v21 v19 (k - 8) ?_ ?_ ?_ ?_)
    · rw [z_lt, show ((256 : Int32)).toInt = 256 from rfl] at q
      rcases hc with hc | rfl | rfl | rfl | rfl | rfl | rfl | rfl | rfl
      · exact hc
      all_goals simp at a b <;> omega
    all_goals
      rw [z_lt, show ((256 : Int32)).toInt = 256 from rfl] at q
    · omega
    · rw [e21, sh_u32 (n := 8) (by omega) u8 (by omega) (by omega)]
      rcases hc with hc | rfl | rfl | rfl | rfl | rfl | rfl | rfl | rfl
      · have := lo hc; omega
      all_goals simp at a b ⊢ <;> omega
    · rw [e21, sh_u32 (n := 8) (by omega) u8 (by omega) (by omega)]
      rcases hc with hc | rfl | rfl | rfl | rfl | rfl | rfl | rfl | rfl
      · have := lo hc; omega
      all_goals simp at a b ⊢ <;> omega
    · rw [e19, z_addv c (show ((-8 : Int32)).toInt = -8 from rfl) (by omega) (by omega)]
      rcases hc with hc | rfl | rfl | rfl | rfl | rfl | rfl | rfl | rfl
      · have := lo hc; omega
      all_goals simp at a b ⊢ <;> omega
  unfold m_J6_numberOfLeadingZeros_0f7a4 m_J6_numberOfLeadingZeros_0f7a4_0
  have hpos : 0 < v.toInt := by
    have : (0 : Int) < 2 ^ h := by exact_mod_cast Nat.pow_pos (by omega : 0 < 2)
    omega
  refine ok_ite (fun _ => ok_ite (fun q => m33 v 31 h ?_ h1 h2 ?_) (fun q => ok_l fun v3 e3 => ok_l fun v5 e5 => m33 v5 v3 (h - 16) (by omega) ?_ ?_ ?_)) (fun q => absurd (z_lt.mpr (show ((0 : Int32)).toInt < v.toInt from hpos)) q)
  · rw [z_lt, show ((65536 : Int32)).toInt = 65536 from rfl] at q
    refine Nat.not_le.mp (fun z => ?_)
    have : (2 : Int) ^ 16 ≤ 2 ^ h := by exact_mod_cast Nat.pow_le_pow_right (by omega) z
    omega
  · rw [show ((31 : Int32)).toInt = 31 from rfl]; omega
  all_goals
    rw [z_lt, show ((65536 : Int32)).toInt = 65536 from rfl] at q
    have hge : 16 ≤ h := Nat.not_lt.mp (fun z => by
      have : (2 : Int) ^ (h + 1) ≤ 2 ^ 16 := by exact_mod_cast Nat.pow_le_pow_right (by omega) (by omega : h + 1 ≤ 16)
      omega)
    have p1 : (2 : Int) ^ h = 2 ^ (h - 16) * 65536 := by rw [show (65536 : Int) = 2 ^ 16 from rfl, ← Int.pow_add, show h - 16 + 16 = h by omega]
    have p2 : (2 : Int) ^ (h + 1) = 2 ^ (h - 16 + 1) * 65536 := by rw [show (65536 : Int) = 2 ^ 16 from rfl, ← Int.pow_add, show h - 16 + 1 + 16 = h + 1 by omega]
  · rw [e5, sh_u32 (n := 16) (by omega) u16 (by omega) (by omega)]
    simp
    omega
  · rw [e5, sh_u32 (n := 16) (by omega) u16 (by omega) (by omega)]
    simp
    omega
  · rw [e3, show ((31 + (-16) : Int32)).toInt = 15 from rfl]; omega
theorem b32_high {v : Int32} {h : Nat} (hh : h < 31) (h1 : b32 v h) (h2 : ∀ k, h < k → ¬ b32 v k) : (2 : Int) ^ h ≤ v.toInt ∧ v.toInt < (2 : Int) ^ (h + 1) := by
  have t : ∀ k, v.toBitVec.toNat.testBit k = true ↔ b32 v k := fun k => by unfold b32; rw [BitVec.testBit_toNat]
  have lo : 2 ^ h ≤ v.toBitVec.toNat := Nat.ge_two_pow_of_testBit ((t h).mpr h1)
  have hi : v.toBitVec.toNat < 2 ^ (h + 1) := Nat.lt_pow_two_of_testBit _ (fun k hk => by
    have := fun z => h2 k (by omega) ((t k).mp z)
    cases e : v.toBitVec.toNat.testBit k
    · rfl
    · exact absurd e this)
  have big : 2 ^ (h + 1) ≤ 2 ^ 31 := Nat.pow_le_pow_right (by omega) (by omega)
  have e : v.toInt = (v.toBitVec.toNat : Int) := by
    have a : v.toInt = v.toBitVec.toInt := rfl
    rw [a, BitVec.toInt_eq_toNat_cond, if_pos (by omega)]
  rw [e]
  exact ⟨by exact_mod_cast lo, by exact_mod_cast hi⟩
theorem Lt.ge {kd ka kb : Nat → Int} {sg : Nat → Int} {N : Nat} : ∀ (f e i j : Nat), Lt kd ka kb f e sg N i j → i ≤ j
  | 0, _, _, _, h => h.elim
  | f + 1, e, i, j, h => by
    have ih := fun e i j => Lt.ge (kd := kd) (ka := ka) (kb := kb) (sg := sg) (N := N) f e i j
    have st : ∀ (e n i j : Nat), gRep (Lt kd ka kb f e) sg N n i j → i ≤ j := by
      intro e n
      induction n with
      | zero => intro i j h; rw [← show i = j from h]; exact Nat.le_refl _
      | succ n ihn => intro i j h; obtain ⟨k, h1, h2⟩ := h; exact Nat.le_trans (ih e i k h1) (ihn k j h2)
    have h : (if kd e = 0 then gEps else if kd e = 4 then gCat (Lt kd ka kb f (ka e).toNat) (Lt kd ka kb f (kb e).toNat) else if kd e = 5 then gOr (Lt kd ka kb f (ka e).toNat) (Lt kd ka kb f (kb e).toNat) else if kd e = 6 then gStar (Lt kd ka kb f (ka e).toNat) else if kd e = 7 then gPlus (Lt kd ka kb f (ka e).toNat) else if kd e = 8 then gMay (Lt kd ka kb f (ka e).toNat) else gAtom (alo kd ka e) (ahi kd kb e)) sg N i j := h
    split at h
    · rw [← show i = j from h]; exact Nat.le_refl _
    · split at h
      · obtain ⟨k, h1, h2⟩ := h; exact Nat.le_trans (ih _ i k h1) (ih _ k j h2)
      · split at h
        · rcases h with h | h
          · exact ih _ i j h
          · exact ih _ i j h
        · split at h
          · obtain ⟨n, h⟩ := h; exact st _ n i j h
          · split at h
            · obtain ⟨k, h1, n, h2⟩ := h; exact Nat.le_trans (ih _ i k h1) (st _ n k j h2)
            · split at h
              · rcases h with h | h
                · rw [← h]; exact Nat.le_refl _
                · exact ih _ i j h
              · have := h.2.1
                omega
def MWS (ow : Option LG) (σ : SG) : Prop := ((σ.1 0 21).toInt = -1 ∧ ow = none) ∨ ∃ (Lw : LG) (e : Nat) (kd ka kb : Nat → Int), ow = some Lw ∧ (σ.1 0 21).toInt = e ∧ MTr kd ka kb σ ∧ Wn kd ka kb 400 e ∧ ∀ sg N i j, Lt kd ka kb 400 e sg N i j ↔ Lw sg N i j
theorem MTr.fr {kd ka kb : Nat → Int} {G : List Nat} {σ σ' : SG} (h : MTr kd ka kb σ) (f : frM G σ σ') (q : 4 ∉ G) : MTr kd ka kb σ' := fun e he => by
  have g : ∀ k, 6 ≤ k → k < 9 → rgM k (500 + e) = 4 := fun k h1 h2 => by
    have hc : k = 6 ∨ k = 7 ∨ k = 8 := by omega
    have : ¬ 500 + e < 500 := by omega
    rcases hc with rfl | rfl | rfl <;> simp [rgM, this]
  rw [f.1 6 _ (by rw [g 6 (by omega) (by omega)]; exact q), f.1 7 _ (by rw [g 7 (by omega) (by omega)]; exact q), f.1 8 _ (by rw [g 8 (by omega) (by omega)]; exact q)]
  exact h e he
theorem MWS.fr {ow : Option LG} {G : List Nat} {σ σ' : SG} (h : MWS ow σ) (f : frM G σ σ') (q : 4 ∉ G) : MWS ow σ' := by
  unfold MWS
  rw [f.1 0 21 q]
  rcases h with h | ⟨Lw, e, kd, ka, kb, h1, h2, h3, h4⟩
  · exact Or.inl h
  · exact Or.inr ⟨Lw, e, kd, ka, kb, h1, h2, h3.fr f q, h4⟩
theorem m_find48 {Lw : LG} {kd ka kb : Nat → Int} {e : Nat} {sg : Nat → Int} {N t : Nat} {μ : Nat → Nat → Nat} {l1 l2 : Int32} {kv : Nat × (Nat → Nat → Int)} {Q : Int32 → SG → Prop} {c24 : SG → Int32 → Int32 → Option (Int32 × SG)} (hμ : ∀ p, p < N → μ t p = lng Lw sg N p) (hN : N ≤ 24) (hsg : sgB sg N) (hw : Wn kd ka kb 400 e) (hL : ∀ i j, Lt kd ka kb 400 e sg N i j ↔ Lw sg N i j) (h2 : l2.toInt = t) (ht : t < 8) (hkv : kv.1 + 24 ≤ 199) (σ0 : SG)
    (kk : ∀ σ', frM [5] σ0 σ' → FdM (fpl μ t N kv).1 (fpl μ t N kv).2 σ' → ∀ v : Int32, v.toInt = ((t + 1 : Nat) : Int) → uOk (c24 σ' l1 v) Q) :
    ∀ (d fuel p : Nat) (σ : SG) (l3 : Int32), d < fuel → p + d = N → MSg sg N σ → MTr kd ka kb σ → (σ.1 0 21).toInt = e → l3.toInt = p → frM [5] σ0 σ → FdM (fpl μ t p kv).1 (fpl μ t p kv).2 σ → uOk (m_X12_find__48 c24 fuel σ l1 l2 l3) Q := by
  intro d
  induction d with
  | zero =>
    intro fuel p σ l3 hf hr hS hT he h3 hF hFd
    cases fuel with
    | zero => omega
    | succ fuel =>
      show uOk (m_X12_find__48_s c24 _ σ l1 l2 l3) Q
      unfold m_X12_find__48_s
      exact ok_ite (fun _ => ok_l fun v ev => kk σ hF (by rw [show N = p by omega]; exact hFd) v (by rw [ev, z_add1 (by omega), h2]; rfl)) (fun q => absurd (z_le.mpr (by rw [hS.2.1, h3]; omega)) q)
  | succ d ih =>
    intro fuel p σ l3 hf hr hS hT he h3 hF hFd
    cases fuel with
    | zero => omega
    | succ fuel =>
      show uOk (m_X12_find__48_s c24 _ σ l1 l2 l3) Q
      unfold m_X12_find__48_s
      have hb := fpl_b (μ := μ) (t := t) (kv := kv) p
      have nxt : ∀ σ', frM [5] σ σ' → FdM (fpl μ t (p + 1) kv).1 (fpl μ t (p + 1) kv).2 σ' → uOk (m_X12_find__98 c24 (m_X12_find__48 c24 fuel) σ' l1 l2 l3) Q := fun σ' hf5 hfd => by
        unfold m_X12_find__98
        exact ok_l fun v ev => ih fuel (p + 1) σ' v (by omega) (by omega) ⟨hS.1, by rw [hf5.1 0 23 (by show (8 : Nat) ∉ _; decide)]; exact hS.2.1, fun k hk => by rw [hf5.1 9 k (by show (8 : Nat) ∉ _; decide)]; exact hS.2.2 k hk⟩ (hT.fr hf5 (by decide)) (by rw [hf5.1 0 21 (by show (4 : Nat) ∉ _; decide)]; exact he) (by rw [ev, z_add1 (by omega), h3]; rfl) (hF.tr hf5) hfd
      have hone : ∀ k, b32 (1 <<< (l3 &&& 31)) k ↔ k = p := fun k => b32_one h3 (by omega)
      refine ok_ite (fun q => absurd (z_le.mp q) (by rw [hS.2.1, h3]; omega)) (fun _ => ok_b (m_beh hS hT hsg 400 e (σ.1 0 21) (1 <<< (l3 &&& 31)) hw he (fun i hi => by rw [(hone i).mp hi]; omega)) (fun v15 s16 h15 => ?_))
      obtain ⟨rfl, h15⟩ := h15
      refine ok_l fun v18 e18 => ?_
      have h18 : ∀ k, b32 v18 k ↔ Lw sg N p k ∧ p < k := fun k => by
        rw [e18, b32_and, b32_not, h15 k, hone]
        constructor
        · rintro ⟨⟨i, c1, c2⟩, c3, c4⟩
          rw [(hone i).mp c1] at c2
          have := Lt.ge 400 e p k c2
          exact ⟨(hL p k).mp c2, by omega⟩
        · rintro ⟨c1, c2⟩
          have c1' := (hL p k).mpr c1
          have := Lt.le 400 e p k (by omega) c1'
          exact ⟨⟨p, (hone p).mpr rfl, c1'⟩, by omega, by omega⟩
      have hle : ∀ k, Lw sg N p k → k ≤ N := fun k hk => Lt.le 400 e p k (by omega) ((hL p k).mpr hk)
      refine ok_ite (fun q => nxt s16 frM.rf ?_) (fun q => ?_)
      · have hz := b32_z.mp q
        have hl : lgst Lw sg N p 0 := ⟨by omega, fun z => by omega, fun j hj1 hj2 hj3 => hz j ((h18 j).mpr ⟨hj3, by omega⟩)⟩
        show FdM (frow μ t p (fpl μ t p kv)).1 (frow μ t p (fpl μ t p kv)).2 s16
        unfold frow
        rw [hμ p (by omega), lng_eq hl, if_neg (by omega)]
        exact hFd
      · -- the highest bit
        have hex : ∃ h, b32 v18 h ∧ ∀ k, h < k → ¬ b32 v18 k := by
          have : ∀ m, (∀ k, b32 v18 k → k < m) → (∃ k, b32 v18 k) → ∃ h, b32 v18 h ∧ ∀ k, h < k → ¬ b32 v18 k := by
            intro m
            induction m with
            | zero => intro a b; obtain ⟨k, hk⟩ := b; exact absurd (a k hk) (by omega)
            | succ m ihm =>
              intro a b
              by_cases c : b32 v18 m
              · exact ⟨m, c, fun k hk z => by have := a k z; omega⟩
              · exact ihm (fun k hk => by have := a k hk; have : k ≠ m := fun y => c (by rw [← y]; exact hk); omega) b
          exact this 32 (fun k hk => b32_lt hk) (Classical.byContradiction (fun z => q (b32_z.mpr (fun k hk => z ⟨k, hk⟩))))
        obtain ⟨h, c1, c2⟩ := hex
        have c3 := (h18 h).mp c1
        have hN2 := hle h c3.1
        have hb2 := b32_high (by omega) c1 c2
        have hl : lgst Lw sg N p (h - p) := ⟨by omega, fun _ => by rw [show p + (h - p) = h by omega]; exact c3.1, fun j hj1 hj2 hj3 => c2 j (by omega) ((h18 j).mpr ⟨hj3, by omega⟩)⟩
        refine ok_b (m_nlz (by omega) hb2.1 hb2.2) (fun v21 s22 h21 => ?_)
        obtain ⟨rfl, h21⟩ := h21
        refine ok_b (m_find1 (k := (fpl μ t p kv).1) (by omega) hFd) (fun _ s25 h25 => nxt s25 h25.2 ?_)
        have e31 : ((31 : Int32)).toInt = 31 := rfl
        have em : (31 - v21 - l3).toInt = ((h - p : Nat) : Int) := by
          rw [z_subv (z_subv e31 h21 (by omega) (by omega)) h3 (by omega) (by omega)]; omega
        show FdM (frow μ t p (fpl μ t p kv)).1 (frow μ t p (fpl μ t p kv)).2 s25
        unfold frow
        rw [hμ p (by omega), lng_eq hl, if_pos (by omega)]
        have h9 := h25.1
        rw [h2, h3, em, show ((0 : Int32)).toInt = 0 from rfl] at h9
        exact h9
theorem m_find24 {n : Nat} {c : Nat → Nat} {P L : Nat → Nat → Int} {Lw : LG} {view : Nat} {l1 : Int32} (hB : NB n c P L) (h5 : view < 5) (h1 : l1.toInt = view) :
    ∀ (d fuel t : Nat) (σ : SG) (l2 : Int32), d < fuel → t + d = n → uNM n c P L σ → MWS (some Lw) σ → l2.toInt = t → FdM (ftu (fmu Lw c P L view) (fun t => c t - two view) t).1 (ftu (fmu Lw c P L view) (fun t => c t - two view) t).2 σ → uOk (m_X12_find__24 fuel σ l1 l2) (fun v σ' => v.toInt = (ftu (fmu Lw c P L view) (fun t => c t - two view) n).1 ∧ frM [8, 5] σ σ' ∧ FdM (ftu (fmu Lw c P L view) (fun t => c t - two view) n).1 (ftu (fmu Lw c P L view) (fun t => c t - two view) n).2 σ') := by
  have hn := hB.1
  have hc : ∀ r, r < 8 → c r ≤ 24 := fun r hr => by have := hB.2.1 r (by omega); unfold rcap at this; rw [if_neg (by omega)] at this; exact this
  have km : ((-1 : Int32)).toInt = -1 := rfl
  intro d
  induction d with
  | zero =>
    intro fuel t σ l2 hf hr hX hW h2 hF
    cases fuel with
    | zero => omega
    | succ fuel =>
      show uOk (m_X12_find__24_s _ σ l1 l2) _
      unfold m_X12_find__24_s
      exact ok_ite (fun _ => ok_r (by rw [show n = t by omega]; exact ⟨hF.1, frM.rf, hF⟩)) (fun q => absurd (z_le.mpr (by rw [hX.1, h2]; omega)) q)
  | succ d ih =>
    intro fuel t σ l2 hf hr hX hW h2 hF
    cases fuel with
    | zero => omega
    | succ fuel =>
      show uOk (m_X12_find__24_s _ σ l1 l2) _
      unfold m_X12_find__24_s
      have hct := hc t (by omega)
      have hb := ftu_b (μ := fmu Lw c P L view) (NN := fun t => c t - two view) (fun r hr => by have := hc r hr; show c r - two view ≤ 24; omega) t (by omega)
      have hrow : rowB (P t) (L t) (c t) := fun j hj => hB.2.2.2 t j (by omega) hj
      rcases id hW with ⟨-, w⟩ | ⟨Lw', e, kd, ka, kb, w, w2, w3, w4, w5⟩
      · cases w
      · cases w
        refine ok_ite (fun q => absurd (z_le.mp q) (by rw [hX.1, h2]; omega)) (fun _ => ok_ite (fun q => absurd q (fun z => by rw [z_eq, w2, km] at z; omega)) (fun _ => ok_b (m_look (t := t) (p := P t) (l := L t) (m := c t) ⟨by omega, hct, hX.2.1 t (by omega), fun j hj => hX.2.2 t j (by omega) hj⟩ hrow h2 h1 h5) (fun _ s10 h10 => ?_)))
        have tw : two view ≤ 1 := by unfold two; split <;> omega
        have hsg : sgB (sgs (P t) (L t) view) (c t - two view) := fun k hk => sgO_b hrow (by omega : k + two view < c t) (by omega)
        refine m_find48 (Lw := Lw) (μ := fmu Lw c P L view) (kv := ftu (fmu Lw c P L view) (fun t => c t - two view) t) (fun p _ => rfl) (by omega) hsg w4 (fun i j => w5 _ _ i j) h2 (by omega) (by omega) s10 (fun σ' hF' hd' v hv => ?_) (c t - two view) FV 0 s10 0 (FV_big (by omega)) (by omega) h10.2 (w3.fr h10.1 (by decide)) (by rw [h10.1.1 0 21 (by show (4 : Nat) ∉ _; decide)]; exact w2) rfl frM.rf (hF.fr h10.1 (by decide))
        have hFF : frM [8, 5] σ σ' := (h10.1.wk (by simp)).tr (hF'.wk (by simp))
        exact (ih fuel (t + 1) σ' v (by omega) (by omega) (hX.fr hFF (by decide)) (hW.fr hFF (by decide)) hv hd').mono (fun _ s h => ⟨h.1, hFF.tr h.2.1, h.2.2⟩)
theorem m_find {n : Nat} {c : Nat → Nat} {P L : Nat → Nat → Int} {ow : Option LG} {k : Nat} {v : Nat → Nat → Int} {σ : SG} {p0 : Int32} (hB : NB n c P L) (hX0 : uNM n c P L σ) (hW0 : MWS ow σ) (hF0 : FdM k v σ) : uOk (m_X12_find_ σ p0) (fun r σ' => r.toInt = (pFind n c P L ow k v p0.toInt).1 ∧ FdM (pFind n c P L ow k v p0.toInt).2.1 (pFind n c P L ow k v p0.toInt).2.2 σ' ∧ frM [11, 8, 5] σ σ') := by
  have k0 : ((0 : Int32)).toInt = 0 := rfl
  have k4 : ((4 : Int32)).toInt = 4 := rfl
  have km : ((-1 : Int32)).toInt = -1 := rfl
  have hn := hB.1
  unfold m_X12_find_ m_X12_find__0 pFind
  refine ok_l fun s0 e0 => ?_
  have hF : frM [11, 8, 5] σ s0 := by rw [e0]; exact m_code.wk (by simp)
  have hX : uNM n c P L s0 := by rw [e0]; exact hX0.fr m_code (by decide)
  have hW : MWS ow s0 := by rw [e0]; exact hW0.fr m_code (by decide)
  have hFd0 : FdM k v s0 := by rw [e0]; exact hF0.fr m_code (by decide)
  refine ok_ite (fun q => ok_r ?_) (fun q1 => ok_ite (fun q2 => ok_l fun s e => ?_) (fun q => ok_r ?_))
  · rw [z_lt, k0] at q; rw [if_pos (Or.inl q)]; exact ⟨rfl, hFd0, hF⟩
  · rw [z_lt, k0] at q1
    rw [z_le, k4] at q2
    rw [if_neg (show ¬ (p0.toInt < 0 ∨ 4 < p0.toInt) by omega)]
    have hF1 : frM [11, 8, 5] s0 s := by rw [e]; exact frM.rf.sI (by show (5 : Nat) ∈ _; decide)
    have hFd : FdM 0 (fun _ _ => 0) s := ⟨by rw [e, g_sI_s]; rfl, fun j hj => absurd hj (Nat.not_lt_zero j)⟩
    have hW1 := hW.fr hF1 (by decide)
    have hX1 := hX.fr hF1 (by decide)
    rcases id hW1 with ⟨w, rfl⟩ | ⟨Lw, e', kd, ka, kb, rfl, -⟩
    · show uOk (m_X12_find__24_s (m_X12_find__24 (FV - 1)) s p0 0) _
      unfold m_X12_find__24_s
      refine ok_ite (fun _ => ok_r ⟨hFd.1, hFd, hF.tr hF1⟩) (fun _ => ok_ite (fun _ => ok_r ⟨hFd.1, hFd, hF.tr hF1⟩) (fun q => absurd (z_eq.mpr (by rw [w, km])) q))
    · exact (m_find24 (Lw := Lw) (view := p0.toInt.toNat) hB (by omega) (by omega) n FV 0 s 0 (FV_big (by omega)) (by omega) hX1 hW1 rfl hFd).mono (fun r s' h => ⟨h.1, h.2.2, (hF.tr hF1).tr (h.2.1.wk (by simp))⟩)
  · rw [z_le, k4] at q; rw [if_pos (Or.inr (by omega))]; exact ⟨rfl, hFd0, hF⟩
