/-! ===== the model's behind: where a node of the word can end ===== -/
def alo (kd ka : Nat → Int) (e : Nat) : Int := if kd e = 1 then ka e else if kd e = 2 then -999 else -1000
def ahi (kd kb : Nat → Int) (e : Nat) : Int := if kd e = 1 then kb e else if kd e = 2 then 999 else -1000
def Lt (kd ka kb : Nat → Int) : Nat → Nat → LG
  | 0, _ => gNo
  | f + 1, e => if kd e = 0 then gEps else if kd e = 4 then gCat (Lt kd ka kb f (ka e).toNat) (Lt kd ka kb f (kb e).toNat) else if kd e = 5 then gOr (Lt kd ka kb f (ka e).toNat) (Lt kd ka kb f (kb e).toNat) else if kd e = 6 then gStar (Lt kd ka kb f (ka e).toNat) else if kd e = 7 then gPlus (Lt kd ka kb f (ka e).toNat) else if kd e = 8 then gMay (Lt kd ka kb f (ka e).toNat) else gAtom (alo kd ka e) (ahi kd kb e)
def Wn (kd ka kb : Nat → Int) : Nat → Nat → Prop
  | 0, _ => False
  | f + 1, e => e < 500 ∧ 0 ≤ kd e ∧ kd e ≤ 8 ∧ (kd e = 1 → -999 ≤ ka e) ∧ (kd e = 4 ∨ kd e = 5 → 0 ≤ ka e ∧ 0 ≤ kb e ∧ Wn kd ka kb f (ka e).toNat ∧ Wn kd ka kb f (kb e).toNat) ∧ (kd e = 6 ∨ kd e = 7 ∨ kd e = 8 → 0 ≤ ka e ∧ Wn kd ka kb f (ka e).toNat)
theorem Wn.up {kd ka kb : Nat → Int} : ∀ (f e : Nat), Wn kd ka kb f e → Wn kd ka kb (f + 1) e ∧ Lt kd ka kb (f + 1) e = Lt kd ka kb f e
  | 0, _, h => h.elim
  | f + 1, e, h => by
    obtain ⟨h1, h2, h3, h4, h5, h6⟩ := h
    refine ⟨⟨h1, h2, h3, h4, fun q => ?_, fun q => ?_⟩, ?_⟩
    · have := h5 q
      exact ⟨this.1, this.2.1, (Wn.up f _ this.2.2.1).1, (Wn.up f _ this.2.2.2).1⟩
    · have := h6 q
      exact ⟨this.1, (Wn.up f _ this.2).1⟩
    · show (if kd e = 0 then _ else _) = (if kd e = 0 then _ else _)
      by_cases q4 : kd e = 4
      · have := h5 (Or.inl q4)
        rw [(Wn.up f _ this.2.2.1).2, (Wn.up f _ this.2.2.2).2]
      · by_cases q5 : kd e = 5
        · have := h5 (Or.inr q5)
          rw [(Wn.up f _ this.2.2.1).2, (Wn.up f _ this.2.2.2).2]
        · by_cases q6 : kd e = 6 ∨ kd e = 7 ∨ kd e = 8
          · have := h6 q6
            rw [(Wn.up f _ this.2).2]
            simp only [if_neg q4, if_neg q5]
          · have a6 : ¬ kd e = 6 := fun z => q6 (Or.inl z)
            have a7 : ¬ kd e = 7 := fun z => q6 (Or.inr (Or.inl z))
            have a8 : ¬ kd e = 8 := fun z => q6 (Or.inr (Or.inr z))
            simp only [if_neg q4, if_neg q5, if_neg a6, if_neg a7, if_neg a8]
theorem Wn.to {kd ka kb : Nat → Int} {f g e : Nat} (h : Wn kd ka kb f e) (q : f ≤ g) : Wn kd ka kb g e ∧ Lt kd ka kb g e = Lt kd ka kb f e := by
  induction g with
  | zero => rw [show f = 0 by omega] at h ⊢; exact ⟨h, rfl⟩
  | succ g ih =>
    by_cases e' : f = g + 1
    · rw [e'] at h ⊢; exact ⟨h, rfl⟩
    · have h1 := ih (by omega)
      have h2 := Wn.up g e h1.1
      exact ⟨h2.1, h2.2.trans h1.2⟩
/-- the kept tree -/
def MTr (kd ka kb : Nat → Int) (σ : SG) : Prop := ∀ e, e < 500 → (σ.1 6 (500 + e)).toInt = kd e ∧ (σ.1 7 (500 + e)).toInt = ka e ∧ (σ.1 8 (500 + e)).toInt = kb e
/-- v is where rows of G can end that begin in x -/
def Bh (G : LG) (sg : Nat → Int) (N : Nat) (x v : Int32) : Prop := ∀ k, b32 v k ↔ ∃ i, b32 x i ∧ G sg N i k
theorem gAtom.le {lo hi : Int} {sg : Nat → Int} {N i j : Nat} (h : gAtom lo hi sg N i j) : j ≤ N := by
  have := h.1
  have := h.2.1
  omega
theorem Lt.le {kd ka kb : Nat → Int} {sg : Nat → Int} {N : Nat} : ∀ (f e i j : Nat), i ≤ N → Lt kd ka kb f e sg N i j → j ≤ N
  | 0, _, _, _, _, h => h.elim
  | f + 1, e, i, j, hi, h => by
    have ih := fun e i j => Lt.le (kd := kd) (ka := ka) (kb := kb) (sg := sg) (N := N) f e i j
    have st : ∀ (e n i j : Nat), i ≤ N → gRep (Lt kd ka kb f e) sg N n i j → j ≤ N := by
      intro e n
      induction n with
      | zero => intro i j hi h; rw [← show i = j from h]; exact hi
      | succ n ihn => intro i j hi h; obtain ⟨k, h1, h2⟩ := h; exact ihn k j (ih e i k hi h1) h2
    have h : (if kd e = 0 then gEps else if kd e = 4 then gCat (Lt kd ka kb f (ka e).toNat) (Lt kd ka kb f (kb e).toNat) else if kd e = 5 then gOr (Lt kd ka kb f (ka e).toNat) (Lt kd ka kb f (kb e).toNat) else if kd e = 6 then gStar (Lt kd ka kb f (ka e).toNat) else if kd e = 7 then gPlus (Lt kd ka kb f (ka e).toNat) else if kd e = 8 then gMay (Lt kd ka kb f (ka e).toNat) else gAtom (alo kd ka e) (ahi kd kb e)) sg N i j := h
    split at h
    · rw [← show i = j from h]; exact hi
    · split at h
      · obtain ⟨k, h1, h2⟩ := h; exact ih _ k j (ih _ i k hi h1) h2
      · split at h
        · rcases h with h | h
          · exact ih _ i j hi h
          · exact ih _ i j hi h
        · split at h
          · obtain ⟨n, h⟩ := h; exact st _ n i j hi h
          · split at h
            · obtain ⟨k, h1, n, h2⟩ := h; exact st _ n k j (ih _ i k hi h1) h2
            · split at h
              · rcases h with h | h
                · rw [← h]; exact hi
                · exact ih _ i j hi h
              · exact h.le
section MB
variable {kd ka kb : Nat → Int} {sg : Nat → Int} {N : Nat} {σ : SG}
def sgB (sg : Nat → Int) (N : Nat) : Prop := ∀ k, k < N → sg k = -1000 ∨ (-999 ≤ sg k ∧ sg k ≤ 999)
/-- the closure -/
theorem m_closed {fb : SG → Int32 → Int32 → Option (Int32 × SG)} {G : LG} {l1 : Int32} (hN : N ≤ 24) (hG : ∀ i j, i ≤ N → G sg N i j → j ≤ N) (hfb : ∀ x : Int32, (∀ i, b32 x i → i ≤ N) → uOk (fb σ l1 x) (fun v s => s = σ ∧ Bh G sg N x v)) {x0 : Int32} (h0 : ∀ i, b32 x0 i → i ≤ N) :
    ∀ (m fuel : Nat) (l3 l4 : Int32), m + 1 < fuel → card (fun k => ¬ b32 l3 k) 32 ≤ m → (∀ i, b32 x0 i → b32 l3 i) → (∀ k, b32 l3 k → ∃ i, b32 x0 i ∧ gStar G sg N i k) → (∀ i, b32 l3 i → i ≤ N) → (∀ k, b32 l4 k → b32 l3 k) → (∀ i k, b32 l3 i → ¬ b32 l4 i → G sg N i k → b32 l3 k) → uOk (m_X12_closed_5 fb fuel σ l1 l3 l4) (fun v s => s = σ ∧ Bh (gStar G) sg N x0 v) := by
  have done : ∀ l3 : Int32, (∀ i, b32 x0 i → b32 l3 i) → (∀ k, b32 l3 k → ∃ i, b32 x0 i ∧ gStar G sg N i k) → (∀ i k, b32 l3 i → G sg N i k → b32 l3 k) → Bh (gStar G) sg N x0 l3 := fun l3 a b c k => ⟨b k, fun ⟨i, z1, n, z2⟩ => by
    have : ∀ n i, b32 l3 i → gRep G sg N n i k → b32 l3 k := by
      intro n
      induction n with
      | zero => intro i hi h; rw [← show i = k from h]; exact hi
      | succ n ih => intro i hi h; obtain ⟨j, h1, h2⟩ := h; exact ih j (c i j hi h1) h2
    exact this n i (a i z1) z2⟩
  intro m
  induction m with
  | zero =>
    intro fuel l3 l4 hf hm h1 h2 h3 h4 h5
    cases fuel with
    | zero => omega
    | succ fuel =>
      -- nothing is missing, so nothing new comes; but l3 has bits at most N
      exfalso
      have : card (fun k => False) 32 < card (fun k => ¬ b32 l3 k) 32 := card_lt (fun t h => h.elim) (m := 31) (fun z => by have := h3 31 z; omega) (fun z => z) 32 (by omega)
      omega
  | succ m ih =>
    intro fuel l3 l4 hf hm h1 h2 h3 h4 h5
    cases fuel with
    | zero => omega
    | succ fuel =>
      show uOk (m_X12_closed_5_s fb _ σ l1 l3 l4) _
      unfold m_X12_closed_5_s
      refine ok_ite (fun q => ok_r ⟨rfl, done l3 h1 h2 (fun i k hi hg => h5 i k hi (b32_z.mp q i) hg)⟩) (fun q => ok_b (hfb l4 (fun i hi => h3 i (h4 i hi))) (fun v2 s3 hv2 => ?_))
      obtain ⟨rfl, hv2⟩ := hv2
      refine ok_l fun v5 e5 => ok_l fun v7 e7 => ?_
      have b5 : ∀ k, b32 v5 k ↔ b32 v2 k ∧ k < 32 ∧ ¬ b32 l3 k := fun k => by rw [e5, b32_and, b32_not]
      have b7 : ∀ k, b32 v7 k ↔ b32 l3 k ∨ b32 v5 k := fun k => by rw [e7, b32_or]
      have a1 : ∀ i, b32 x0 i → b32 v7 i := fun i hi => (b7 i).mpr (Or.inl (h1 i hi))
      have a2 : ∀ k, b32 v7 k → ∃ i, b32 x0 i ∧ gStar G sg N i k := fun k hk => by
        rcases (b7 k).mp hk with hk | hk
        · exact h2 k hk
        · obtain ⟨i, c1, c2⟩ := (hv2 k).mp ((b5 k).mp hk).1
          obtain ⟨i0, c3, n, c4⟩ := h2 i (h4 i c1)
          exact ⟨i0, c3, n + 1, c4.app c2⟩
      have a3 : ∀ i, b32 v7 i → i ≤ N := fun k hk => by
        rcases (b7 k).mp hk with hk | hk
        · exact h3 k hk
        · obtain ⟨i, c1, c2⟩ := (hv2 k).mp ((b5 k).mp hk).1
          exact hG i k (h3 i (h4 i c1)) c2
      have a4 : ∀ k, b32 v5 k → b32 v7 k := fun k hk => (b7 k).mpr (Or.inr hk)
      have a5 : ∀ i k, b32 v7 i → ¬ b32 v5 i → G sg N i k → b32 v7 k := fun i k hi hn hg => by
        rcases (b7 i).mp hi with hi | hi
        · by_cases c : b32 l4 i
          · have h9 := (hv2 k).mpr ⟨i, c, hg⟩
            by_cases c2 : b32 l3 k
            · exact (b7 k).mpr (Or.inl c2)
            · exact (b7 k).mpr (Or.inr ((b5 k).mpr ⟨h9, b32_lt h9, c2⟩))
          · exact (b7 k).mpr (Or.inl (h5 i k hi c hg))
        · exact absurd hi hn
      by_cases hz : v5 = 0
      · cases fuel with
        | zero => omega
        | succ fuel =>
          show uOk (m_X12_closed_5_s fb _ s3 l1 v7 v5) _
          unfold m_X12_closed_5_s
          exact ok_ite (fun _ => ok_r ⟨rfl, done v7 a1 a2 (fun i k hi hg => a5 i k hi (b32_z.mp hz i) hg)⟩) (fun z => absurd hz z)
      · have hex : ∃ k, b32 v5 k := Classical.byContradiction (fun z => hz (b32_z.mpr (fun k hk => z ⟨k, hk⟩)))
        obtain ⟨k, hk⟩ := hex
        have hk5 := (b5 k).mp hk
        have := card_lt (p := fun k => ¬ b32 v7 k) (q := fun k => ¬ b32 l3 k) (fun t ht z => ht ((b7 t).mpr (Or.inl z))) (m := k) hk5.2.2 (fun z => z (a4 k hk)) 32 hk5.2.1
        exact ih fuel v7 v5 (by omega) (by omega) a1 a2 a3 a4 a5
theorem m_beh148 {fb fc : SG → Int32 → Int32 → Option (Int32 × SG)} {e : Nat} {l1 l2 l3 l4 : Int32} (hS : MSg sg N σ) (hT : MTr kd ka kb σ) (hsg : sgB sg N) (he : e < 500) (h1 : l1.toInt = e) (h3 : l3.toInt = ka e) (h4 : l4.toInt = kb e) (hk : kd e = 1 ∨ kd e = 2 ∨ kd e = 3) (hka : kd e = 1 → -999 ≤ ka e) :
    ∀ (d fuel k : Nat) (l5 l6 : Int32), d < fuel → k + d = N → l6.toInt = k → (∀ j, b32 l5 j ↔ ∃ i, i < k ∧ b32 l2 i ∧ gAtom (alo kd ka e) (ahi kd kb e) sg N i j) → uOk (m_X12_behind_148 fb fc fuel σ l1 l2 l3 l4 l5 l6) (fun v s => s = σ ∧ Bh (gAtom (alo kd ka e) (ahi kd kb e)) sg N l2 v) := by
  obtain ⟨s1, s2, s3⟩ := id hS
  have k1000 : ((1000 : Int32)).toInt = 1000 := rfl
  have k500 : ((500 : Int32)).toInt = 500 := rfl
  have e5 : (500 + l1).toInt = (500 + e : Nat) := by rw [z_addv k500 h1 (by omega) (by omega)]; omega
  obtain ⟨t1, t2, t3⟩ := hT e he
  intro d
  induction d with
  | zero =>
    intro fuel k l5 l6 hf hr h6 hd
    cases fuel with
    | zero => omega
    | succ fuel =>
      show uOk (m_X12_behind_148_s fb fc _ σ l1 l2 l3 l4 l5 l6) _
      unfold m_X12_behind_148_s
      refine ok_ite (fun _ => ok_r ⟨rfl, fun j => ?_⟩) (fun q => absurd (z_le.mpr (by rw [s2, h6]; omega)) q)
      rw [hd j]
      constructor
      · rintro ⟨i, z1, z2, z3⟩; exact ⟨i, z2, z3⟩
      · rintro ⟨i, z2, z3⟩; exact ⟨i, by have := z3.1; omega, z2, z3⟩
  | succ d ih =>
    intro fuel k l5 l6 hf hr h6 hd
    cases fuel with
    | zero => omega
    | succ fuel =>
      show uOk (m_X12_behind_148_s fb fc _ σ l1 l2 l3 l4 l5 l6) _
      unfold m_X12_behind_148_s
      have hv := s3 k (by omega)
      have hsk := hsg k (by omega)
      rw [z_nv h6]
      have nx : ∀ v : Int32, v = l6 + 1 → v.toInt = (k + 1 : Nat) := fun v ev => by rw [ev, z_add1 (by omega), h6]; rfl
      have skip : ¬ (b32 l2 k ∧ alo kd ka e ≤ sg k ∧ sg k ≤ ahi kd kb e) → uOk (m_X12_behind_269 fb fc (m_X12_behind_148 fb fc fuel) σ l1 l2 l3 l4 l6 l5) (fun v s => s = σ ∧ Bh (gAtom (alo kd ka e) (ahi kd kb e)) sg N l2 v) := fun hno => by
        unfold m_X12_behind_269 m_X12_behind_270
        refine ok_l fun v56 e56 => ok_l fun v58 e58 => ih fuel (k + 1) v56 v58 (by omega) (by omega) (nx v58 e58) (fun j => ?_)
        rw [e56, b32_or, hd j]
        constructor
        · rintro (⟨i, z1, z2⟩ | z)
          · exact ⟨i, by omega, z2⟩
          · exact absurd z b32_0
        · rintro ⟨i, z1, z2, z3⟩
          refine Or.inl ⟨i, ?_, z2, z3⟩
          have : i ≠ k := fun y => hno (by rw [← y]; exact ⟨z2, z3.2.2⟩)
          omega
      have m243 : ∀ s0 : Int32, (s0 = 0 ↔ ¬ (alo kd ka e ≤ sg k ∧ sg k ≤ ahi kd kb e)) → uOk (m_X12_behind_243 fb fc (m_X12_behind_148 fb fc fuel) σ l1 l2 l3 l4 l5 l6 s0) (fun v s => s = σ ∧ Bh (gAtom (alo kd ka e) (ahi kd kb e)) sg N l2 v) := fun s0 hs0 => by
        unfold m_X12_behind_243
        refine ok_ite (fun q => skip (fun z => (hs0.mp q) z.2)) (fun q => ok_ite (fun q2 => skip (fun z => q2 ((b32_test h6 (by omega)).mpr z.1))) (fun q2 => ?_))
        have hin : alo kd ka e ≤ sg k ∧ sg k ≤ ahi kd kb e := Classical.not_not.mp (fun z => q (hs0.mpr z))
        have hb : b32 l2 k := (b32_test h6 (by omega)).mp (Classical.not_not.mp q2)
        unfold m_X12_behind_270
        refine ok_l fun v56 e56 => ok_l fun v58 e58 => ih fuel (k + 1) v56 v58 (by omega) (by omega) (nx v58 e58) (fun j => ?_)
        rw [e56, b32_or, hd j, b32_two h6 (by omega)]
        constructor
        · rintro (⟨i, z1, z2⟩ | rfl)
          · exact ⟨i, by omega, z2⟩
          · exact ⟨k, by omega, hb, by omega, rfl, hin⟩
        · rintro ⟨i, z1, z2, z3⟩
          by_cases y : i = k
          · exact Or.inr (by have := z3.2.1; omega)
          · exact Or.inl ⟨i, by omega, z2, z3⟩
      have m175 : ∀ s0 : Int32, (s0 = 0 ↔ ¬ sg k = -1000) → uOk (m_X12_behind_175 fb fc (m_X12_behind_148 fb fc fuel) σ l1 l2 l3 l4 l5 l6 s0) (fun v s => s = σ ∧ Bh (gAtom (alo kd ka e) (ahi kd kb e)) sg N l2 v) := fun s0 hs0 => by
        unfold m_X12_behind_175 m_X12_behind_242 m_X12_behind_238
        rw [z_nv e5, z_nv h6]
        have n3 : ((3 : Int32)).toInt = 3 := rfl
        have n2 : ((2 : Int32)).toInt = 2 := rfl
        refine ok_i (by omega) (ok_ite (fun q => ok_ite (fun q2 => m243 0 ?_) (fun q2 => ok_i (by omega) (ok_ite (fun q3 => m243 1 ?_) (fun q3 => ok_i (by omega) (ok_ite (fun q4 => m243 0 ?_) (fun q4 => ok_i (by omega) (ok_ite (fun q5 => m243 0 ?_) (fun q5 => m243 1 ?_)))))))) (fun q => m243 s0 ?_))
        · rw [z_eq, t1, n3] at q
          have hr' : sg k = -1000 := Classical.not_not.mp (fun z => q2 (hs0.mpr z))
          unfold alo ahi
          rcases hk with hk | hk | hk
          · have := hka hk; rw [hk]; simp; omega
          · rw [hk]; simp; omega
          · exact absurd hk q
        · rw [z_eq, t1, n3] at q
          rw [z_eq, t1, n2] at q3
          have hr' : ¬ sg k = -1000 := hs0.mp (Classical.not_not.mp q2)
          unfold alo ahi
          rw [q3]; simp; omega
        · rw [z_eq, t1, n3] at q
          rw [z_eq, t1, n2] at q3
          have hr' : ¬ sg k = -1000 := hs0.mp (Classical.not_not.mp q2)
          have hk1 : kd e = 1 := by omega
          rw [z_lt, hv, h3] at q4
          unfold msv at q4
          rw [if_neg hr'] at q4
          unfold alo ahi
          rw [hk1]; simp; omega
        · rw [z_eq, t1, n3] at q
          rw [z_eq, t1, n2] at q3
          have hr' : ¬ sg k = -1000 := hs0.mp (Classical.not_not.mp q2)
          have hk1 : kd e = 1 := by omega
          rw [z_lt, hv, h4] at q5
          unfold msv at q5
          rw [if_neg hr'] at q5
          unfold alo ahi
          rw [hk1]; simp; omega
        · rw [z_eq, t1, n3] at q
          rw [z_eq, t1, n2] at q3
          have hr' : ¬ sg k = -1000 := hs0.mp (Classical.not_not.mp q2)
          have hk1 : kd e = 1 := by omega
          rw [z_lt, hv, h3] at q4
          rw [z_lt, hv, h4] at q5
          unfold msv at q4 q5
          rw [if_neg hr'] at q4 q5
          unfold alo ahi
          rw [hk1]; simp; omega
        · rw [z_eq, t1, n3, Classical.not_not] at q
          unfold alo ahi
          rw [hs0, q]; simp; omega
      refine ok_ite (fun q => absurd (z_le.mp q) (by rw [s2, h6]; omega)) (fun _ => ok_i (by omega) (ok_ite (fun q => m175 0 ?_) (fun q => m175 1 ?_)))
      · rw [z_eq, hv, k1000] at q
        unfold msv at q
        by_cases y : sg k = -1000
        · rw [if_pos y] at q; exact absurd rfl q
        · simp [y]
      · rw [z_eq, hv, k1000, Classical.not_not] at q
        unfold msv at q
        by_cases y : sg k = -1000
        · simp [y]
        · rw [if_neg y] at q; omega
theorem m_beh (hS : MSg sg N σ) (hT : MTr kd ka kb σ) (hsg : sgB sg N) : ∀ (f e : Nat) (p0 p1 : Int32), Wn kd ka kb f e → p0.toInt = e → (∀ i, b32 p1 i → i ≤ N) → uOk (t_beh f σ p0 p1) (fun v s => s = σ ∧ Bh (Lt kd ka kb f e) sg N p1 v)
  | 0, _, _, _, h, _, _ => h.elim
  | f + 1, e, p0, p1, h, h0, hp => by
    obtain ⟨w1, w2, w3, w4, w5, w6⟩ := h
    have hN := hS.1
    have k500 : ((500 : Int32)).toInt = 500 := rfl
    have e5 : (500 + p0).toInt = (500 + e : Nat) := by rw [z_addv k500 h0 (by omega) (by omega)]; omega
    obtain ⟨t1, t2, t3⟩ := hT e w1
    have ih := m_beh hS hT hsg f
    have ez : ∀ k : Int32, σ.1 6 (500 + e) = k ↔ kd e = k.toInt := fun k => by rw [z_eq, t1]
    have clo : ∀ (q : Int32) (e' : Nat) (x : Int32), Wn kd ka kb f e' → q.toInt = e' → (∀ i, b32 x i → i ≤ N) → uOk (m_X12_closed (t_beh f) σ q x) (fun v s => s = σ ∧ Bh (gStar (Lt kd ka kb f e')) sg N x v) := fun q e' x hw hq hx => by
      unfold m_X12_closed m_X12_closed_0
      refine m_closed hN (fun i j hi hg => Lt.le f e' i j hi hg) (fun y hy => ih e' q y hw hq hy) hx 32 FV x x (FV_big (by omega)) (card_le _ 32) (fun i hi => hi) (fun k hk => ⟨k, hk, 0, rfl⟩) hx (fun k hk => hk) (fun i k hi hn => absurd hi hn)
    show uOk (m_X12_behind (t_beh f) (m_X12_closed (t_beh f)) σ p0 p1) _
    unfold m_X12_behind m_X12_behind_0
    rw [z_nv e5]
    refine ok_i (by omega) (ok_l fun v2 e2 => ok_i (by omega) (ok_l fun v5 e5' => ok_i (by omega) ?_))
    have h2 : v2.toInt = ka e := by rw [e2]; exact t2
    have h5 : v5.toInt = kb e := by rw [e5']; exact t3
    have at_ : (kd e = 1 ∨ kd e = 2 ∨ kd e = 3) → uOk (m_X12_behind_148 (t_beh f) (m_X12_closed (t_beh f)) FV σ p0 p1 v2 v5 0 0) (fun v s => s = σ ∧ Bh (Lt kd ka kb (f + 1) e) sg N p1 v) := fun hk => by
      have hl : Lt kd ka kb (f + 1) e = gAtom (alo kd ka e) (ahi kd kb e) := by
        show (if kd e = 0 then _ else _) = _
        rw [if_neg (by omega), if_neg (by omega), if_neg (by omega), if_neg (by omega), if_neg (by omega), if_neg (by omega)]
      rw [hl]
      exact m_beh148 hS hT hsg w1 h0 h2 h5 hk w4 N FV 0 0 0 (FV_big (by omega)) (by omega) rfl (fun j => ⟨fun z => absurd z b32_0, fun ⟨i, z, _⟩ => absurd z (by omega)⟩)
    simp only [ez]
    refine ok_ite (fun q => ok_r ⟨rfl, ?_⟩) (fun q0 => ok_ite (fun q => at_ (Or.inl q)) (fun q1 => ok_ite (fun q => at_ (Or.inr (Or.inl q))) (fun q2 => ok_ite (fun q => at_ (Or.inr (Or.inr q))) (fun q3 => ok_ite (fun q => ?_) (fun q4 => ok_ite (fun q => ?_) (fun q5 => ok_ite (fun q => ?_) (fun q6 => ok_ite (fun q => ?_) (fun q7 => ok_ite (fun q => ?_) (fun q8 => ?_)))))))))
    · have q : kd e = 0 := q
      have hl : Lt kd ka kb (f + 1) e = gEps := by show (if kd e = 0 then _ else _) = _; rw [if_pos q]
      rw [hl]
      exact fun k => ⟨fun z => ⟨k, z, rfl⟩, fun ⟨i, z1, z2⟩ => by rw [← show i = k from z2]; exact z1⟩
    · have q : kd e = 4 := q
      have hl : Lt kd ka kb (f + 1) e = gCat (Lt kd ka kb f (ka e).toNat) (Lt kd ka kb f (kb e).toNat) := by show (if kd e = 0 then _ else _) = _; rw [if_neg (by omega), if_pos q]
      obtain ⟨a1, a2, a3, a4⟩ := w5 (Or.inl q)
      rw [hl]
      refine ok_b (ih (ka e).toNat v2 p1 a3 (by omega) hp) (fun v13 s14 h13 => ?_)
      obtain ⟨rfl, h13⟩ := h13
      refine ok_b (ih (kb e).toNat v5 v13 a4 (by omega) (fun k hk => ?_)) (fun v16 s17 h16 => ok_r ⟨h16.1, fun k => ?_⟩)
      · obtain ⟨i, c1, c2⟩ := (h13 k).mp hk
        exact Lt.le f _ i k (hp i c1) c2
      · rw [h16.2 k]
        constructor
        · rintro ⟨j, c1, c2⟩
          obtain ⟨i, c3, c4⟩ := (h13 j).mp c1
          exact ⟨i, c3, j, c4, c2⟩
        · rintro ⟨i, c1, j, c2, c3⟩
          exact ⟨j, (h13 j).mpr ⟨i, c1, c2⟩, c3⟩
    · have q : kd e = 5 := q
      have hl : Lt kd ka kb (f + 1) e = gOr (Lt kd ka kb f (ka e).toNat) (Lt kd ka kb f (kb e).toNat) := by show (if kd e = 0 then _ else _) = _; rw [if_neg (by omega), if_neg (by omega), if_pos q]
      obtain ⟨a1, a2, a3, a4⟩ := w5 (Or.inr q)
      rw [hl]
      refine ok_b (ih (ka e).toNat v2 p1 a3 (by omega) hp) (fun v20 s21 h20 => ?_)
      obtain ⟨rfl, h20⟩ := h20
      refine ok_b (ih (kb e).toNat v5 p1 a4 (by omega) hp) (fun v23 s24 h23 => ok_r ⟨h23.1, fun k => ?_⟩)
      rw [b32_or, h20 k, h23.2 k]
      constructor
      · rintro (⟨i, c1, c2⟩ | ⟨i, c1, c2⟩)
        · exact ⟨i, c1, Or.inl c2⟩
        · exact ⟨i, c1, Or.inr c2⟩
      · rintro ⟨i, c1, c2 | c2⟩
        · exact Or.inl ⟨i, c1, c2⟩
        · exact Or.inr ⟨i, c1, c2⟩
    · have q : kd e = 6 := q
      have hl : Lt kd ka kb (f + 1) e = gStar (Lt kd ka kb f (ka e).toNat) := by show (if kd e = 0 then _ else _) = _; rw [if_neg (by omega), if_neg (by omega), if_neg (by omega), if_pos q]
      obtain ⟨a1, a3⟩ := w6 (Or.inl q)
      rw [hl]
      exact ok_b (clo v2 (ka e).toNat p1 a3 (by omega) hp) (fun v27 s28 h27 => ok_r h27)
    · have q : kd e = 7 := q
      have hl : Lt kd ka kb (f + 1) e = gPlus (Lt kd ka kb f (ka e).toNat) := by show (if kd e = 0 then _ else _) = _; rw [if_neg (by omega), if_neg (by omega), if_neg (by omega), if_neg (by omega), if_pos q]
      obtain ⟨a1, a3⟩ := w6 (Or.inr (Or.inl q))
      rw [hl]
      refine ok_b (ih (ka e).toNat v2 p1 a3 (by omega) hp) (fun v31 s32 h31 => ?_)
      obtain ⟨rfl, h31⟩ := h31
      refine ok_b (clo v2 (ka e).toNat v31 a3 (by omega) (fun k hk => ?_)) (fun v34 s35 h34 => ok_r ⟨h34.1, fun k => ?_⟩)
      · obtain ⟨i, c1, c2⟩ := (h31 k).mp hk
        exact Lt.le f _ i k (hp i c1) c2
      · rw [h34.2 k]
        constructor
        · rintro ⟨j, c1, c2⟩
          obtain ⟨i, c3, c4⟩ := (h31 j).mp c1
          exact ⟨i, c3, j, c4, c2⟩
        · rintro ⟨i, c1, j, c2, c3⟩
          exact ⟨j, (h31 j).mpr ⟨i, c1, c2⟩, c3⟩
    · have q : kd e = 8 := q
      have hl : Lt kd ka kb (f + 1) e = gMay (Lt kd ka kb f (ka e).toNat) := by show (if kd e = 0 then _ else _) = _; rw [if_neg (by omega), if_neg (by omega), if_neg (by omega), if_neg (by omega), if_neg (by omega), if_pos q]
      obtain ⟨a1, a3⟩ := w6 (Or.inr (Or.inr q))
      rw [hl]
      refine ok_b (ih (ka e).toNat v2 p1 a3 (by omega) hp) (fun v38 s39 h38 => ok_r ⟨h38.1, fun k => ?_⟩)
      rw [b32_or, h38.2 k]
      constructor
      · rintro (z | ⟨i, c1, c2⟩)
        · exact ⟨k, z, Or.inl rfl⟩
        · exact ⟨i, c1, Or.inr c2⟩
      · rintro ⟨i, c1, c2 | c2⟩
        · exact Or.inl (by rw [← c2]; exact c1)
        · exact Or.inr ⟨i, c1, c2⟩
    · have q0 : ¬ kd e = 0 := q0
      have q1 : ¬ kd e = 1 := q1
      have q2 : ¬ kd e = 2 := q2
      have q3 : ¬ kd e = 3 := q3
      have q4 : ¬ kd e = 4 := q4
      have q5 : ¬ kd e = 5 := q5
      have q6 : ¬ kd e = 6 := q6
      have q7 : ¬ kd e = 7 := q7
      have q8 : ¬ kd e = 8 := q8
      omega
end MB
