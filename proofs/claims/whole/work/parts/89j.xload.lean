/-! ===== the class loads what is carried ===== -/
def frK (σ σ' : SG) : Prop := (∀ k i, ¬ ((28 ≤ k ∧ k < 40) ∨ (95 ≤ k ∧ k < 144) ∨ (208 ≤ k ∧ k < 210)) → σ'.1 k i = σ.1 k i) ∧ σ'.2 = σ.2
theorem frK.rf {σ : SG} : frK σ σ := ⟨fun _ _ _ => rfl, rfl⟩
theorem frK.tr {σ σ1 σ2 : SG} (h : frK σ σ1) (q : frK σ1 σ2) : frK σ σ2 := ⟨fun k i z => (q.1 k i z).trans (h.1 k i z), q.2.trans h.2⟩
theorem frK.sI {σ σ1 : SG} {k i : Nat} {x : Int32} (h : frK σ σ1) (q : (28 ≤ k ∧ k < 40) ∨ (95 ≤ k ∧ k < 144) ∨ (208 ≤ k ∧ k < 210)) : frK σ (sI σ1 k i x) := ⟨fun k' i' z => by rw [g_sI, if_neg (by omega)]; exact h.1 k' i' z, h.2⟩
theorem rgX_K {k i : Nat} (h : (28 ≤ k ∧ k < 40) ∨ (95 ≤ k ∧ k < 144) ∨ (208 ≤ k ∧ k < 210)) : rgX k i = 10 := by
  unfold rgX
  rcases h with h | h | h
  · rw [if_neg (by omega), if_neg (by omega), if_neg (by omega), if_neg (by omega), if_neg (by omega), if_neg (by omega), if_neg (by omega), if_pos (by omega)]
  · rw [if_neg (by omega), if_neg (by omega), if_neg (by omega), if_neg (by omega), if_neg (by omega), if_neg (by omega), if_neg (by omega), if_neg (by omega), if_neg (by omega), if_neg (by omega), if_neg (by omega), if_pos (by omega)]
  · rw [if_neg (by omega), if_neg (by omega), if_neg (by omega), if_neg (by omega), if_neg (by omega), if_neg (by omega), if_neg (by omega), if_neg (by omega), if_neg (by omega), if_neg (by omega), if_neg (by omega), if_neg (by omega), if_neg (by omega), if_neg (by omega), if_neg (by omega), if_neg (by omega), if_neg (by omega), if_neg (by omega), if_neg (by omega), if_neg (by omega)]
theorem frK.X {σ σ' : SG} (h : frK σ σ') : frX [10] σ σ' := ⟨fun k i z => h.1 k i (fun y => z (by rw [rgX_K y]; decide)), fun k i _ => by rw [h.2], by rw [h.2]⟩
theorem XRow.K {r : Nat} {p l : Nat → Int} {m : Nat} {σ σ' : SG} (h : XRow r p l m σ) (f : frK σ σ') : XRow r p l m σ' := h.fr f.X (by decide)
theorem x_fill24 {c : Nat} (hc : lenX c = 24) : ∀ (r fuel k : Nat) (σ : SG) (l1 l2 l3 : Int32), r < fuel → k + r = 24 → l2.toInt = k → l3.toInt = 24 → (∀ j, j < k → σ.1 c j = l1) → uOk (m_J7_fill_53178_5 c fuel σ l1 l2 l3) (fun _ σ' => fr1 c (c + 1) σ σ' ∧ ∀ j, j < 24 → σ'.1 c j = l1) := by
  intro r
  induction r with
  | zero =>
    intro fuel k σ l1 l2 l3 hf hr h2 h3 hd
    cases fuel with
    | zero => omega
    | succ fuel =>
      show uOk (m_J7_fill_53178_5_s c _ σ l1 l2 l3) _
      unfold m_J7_fill_53178_5_s
      exact ok_ite (fun _ => ok_r ⟨fr1.rf, fun j hj => hd j (by omega)⟩) (fun q => absurd (z_le.mpr (by rw [h2, h3]; omega)) q)
  | succ r ih =>
    intro fuel k σ l1 l2 l3 hf hr h2 h3 hd
    cases fuel with
    | zero => omega
    | succ fuel =>
      show uOk (m_J7_fill_53178_5_s c _ σ l1 l2 l3) _
      unfold m_J7_fill_53178_5_s
      rw [hc, z_nv h2]
      refine ok_ite (fun q => absurd (z_le.mp q) (by rw [h2, h3]; omega)) (fun _ => ok_i (by omega) (ok_l fun s es => ok_l fun v ev => ?_))
      have hF : fr1 c (c + 1) σ s := by rw [es]; exact fr1.rf.sI (by omega)
      refine (ih fuel (k + 1) s l1 v l3 (by omega) (by omega) (by rw [ev, z_add1 (by omega), h2]; rfl) h3 (fun j hj => ?_)).mono (fun _ s' h => ⟨hF.tr h.1, h.2⟩)
      rw [es, g_sI]
      by_cases e : j = k
      · rw [if_pos ⟨rfl, e⟩]
      · rw [if_neg (by omega)]; exact hd j (by omega)
theorem x_fillK {c : Nat} {σ : SG} {v : Int32} (hc : lenX c = 24) : uOk (m_J7_fill_53178 c σ v) (fun _ σ' => fr1 c (c + 1) σ σ' ∧ ∀ j, j < 24 → σ'.1 c j = v) := by
  unfold m_J7_fill_53178 m_J7_fill_53178_0
  rw [hc]
  exact ok_l fun v1 e1 => x_fill24 hc 24 FV 0 σ v 0 v1 (FV_big (by omega)) (by omega) rfl (by rw [e1]; rfl) (fun j hj => by omega)
/-- how many of the first n are no rests -/
def uRk (p : Nat → Int) : Nat → Nat
  | 0 => 0
  | n + 1 => uRk p n + (if p n < 0 then 0 else 1)
theorem uRk_le {p : Nat → Int} : ∀ n, uRk p n ≤ n
  | 0 => Nat.le_refl _
  | n + 1 => by
    have := uRk_le (p := p) n
    show uRk p n + (if p n < 0 then 0 else 1) ≤ n + 1
    split <;> omega
theorem uRk_s {p : Nat → Int} (n : Nat) : (p n < 0 → uRk p (n + 1) = uRk p n) ∧ (0 ≤ p n → uRk p (n + 1) = uRk p n + 1) := by
  constructor
  · intro h
    show uRk p n + (if p n < 0 then 0 else 1) = _
    rw [if_pos h]; rfl
  · intro h
    show uRk p n + (if p n < 0 then 0 else 1) = _
    rw [if_neg (by omega)]
theorem uRk_mono {p : Nat → Int} {i : Nat} : ∀ n, i ≤ n → uRk p i ≤ uRk p n
  | 0, h => by rw [show i = 0 by omega]; exact Nat.le_refl _
  | n + 1, h => by
    by_cases e : i = n + 1
    · rw [e]; exact Nat.le_refl _
    · have := uRk_mono (p := p) n (show i ≤ n by omega)
      have q : uRk p (n + 1) = uRk p n + (if p n < 0 then 0 else 1) := rfl
      split at q <;> omega
theorem uRk_lt {p : Nat → Int} {i n : Nat} (h : i < n) (hp : 0 ≤ p i) : uRk p i < uRk p n := by
  have := uRk_mono (p := p) (i := i + 1) n (by omega)
  have := (uRk_s (p := p) i).2 hp
  omega
theorem uRk_inj {p : Nat → Int} {i j : Nat} (hi : 0 ≤ p i) (hj : 0 ≤ p j) (h : uRk p i = uRk p j) : i = j := by
  rcases Nat.lt_trichotomy i j with z | z | z
  · have := uRk_lt z hi; omega
  · exact z
  · have := uRk_lt z hj; omega
theorem uRk_inv {p : Nat → Int} {i : Nat} : ∀ n, i < uRk p n → ∃ k, k < n ∧ 0 ≤ p k ∧ uRk p k = i
  | 0, h => absurd h (by show ¬ i < 0; omega)
  | n + 1, h => by
    have q : uRk p (n + 1) = uRk p n + (if p n < 0 then 0 else 1) := rfl
    by_cases z : i < uRk p n
    · obtain ⟨k, a, b, c⟩ := uRk_inv n z
      exact ⟨k, by omega, b, c⟩
    · by_cases y : p n < 0
      · rw [if_pos y] at q; omega
      · rw [if_neg y] at q
        exact ⟨n, by omega, by omega, by omega⟩
theorem uS_rk {p h : Nat → Int} : ∀ n, uS (fun k => if p k < 0 then 0 else h (uRk p k)) n = uS h (uRk p n)
  | 0 => rfl
  | n + 1 => by
    show uS (fun k => if p k < 0 then 0 else h (uRk p k)) n + (if p n < 0 then 0 else h (uRk p n)) = _
    rw [uS_rk n]
    by_cases z : p n < 0
    · rw [if_pos z, (uRk_s n).1 z]; omega
    · rw [if_neg z, (uRk_s n).2 (by omega)]; rfl
def XLd (o : Nat) (p l : Nat → Int) (k : Nat) (σ : SG) : Prop := (σ.1 (208 + o) 3).toInt = uRk p k ∧ (σ.1 (208 + o) 4).toInt = uS (uA p l) k ∧ ∀ j, j < k → 0 ≤ p j → (σ.1 (28 + o) (uRk p j)).toInt = p j ∧ (σ.1 (30 + o) (uRk p j)).toInt = uS l j ∧ (σ.1 (32 + o) (uRk p j)).toInt = l j
def frL (o : Nat) (σ σ' : SG) : Prop := (∀ k i, k ≠ 28 + o → k ≠ 30 + o → k ≠ 32 + o → k ≠ 208 + o → σ'.1 k i = σ.1 k i) ∧ σ'.2 = σ.2
theorem frL.rf {o : Nat} {σ : SG} : frL o σ σ := ⟨fun _ _ _ _ _ _ => rfl, rfl⟩
theorem frL.tr {o : Nat} {σ σ1 σ2 : SG} (h : frL o σ σ1) (q : frL o σ1 σ2) : frL o σ σ2 := ⟨fun k i a b c d => (q.1 k i a b c d).trans (h.1 k i a b c d), q.2.trans h.2⟩
theorem frL.sI {o : Nat} {σ σ1 : SG} {k i : Nat} {x : Int32} (h : frL o σ σ1) (q : k = 28 + o ∨ k = 30 + o ∨ k = 32 + o ∨ k = 208 + o) : frL o σ (sI σ1 k i x) := ⟨fun k' i' a b c d => by rw [g_sI, if_neg (by omega)]; exact h.1 k' i' a b c d, h.2⟩
theorem frL.K {o : Nat} {σ σ' : SG} (ho : o < 2) (h : frL o σ σ') : frK σ σ' := ⟨fun k i z => h.1 k i (by omega) (by omega) (by omega) (by omega), h.2⟩
theorem XLd.L {o o' : Nat} {p l : Nat → Int} {k : Nat} {σ σ' : SG} (h : XLd o p l k σ) (f : frL o' σ σ') (ho : o < 2) (ho' : o' < 2) (ne : o ≠ o') : XLd o p l k σ' := by
  refine ⟨?_, ?_, fun j hj hp => ⟨?_, ?_, ?_⟩⟩
  · rw [f.1 _ _ (by omega) (by omega) (by omega) (by omega)]; exact h.1
  · rw [f.1 _ _ (by omega) (by omega) (by omega) (by omega)]; exact h.2.1
  · rw [f.1 _ _ (by omega) (by omega) (by omega) (by omega)]; exact (h.2.2 j hj hp).1
  · rw [f.1 _ _ (by omega) (by omega) (by omega) (by omega)]; exact (h.2.2 j hj hp).2.1
  · rw [f.1 _ _ (by omega) (by omega) (by omega) (by omega)]; exact (h.2.2 j hj hp).2.2
theorem x_fill14 {o r : Nat} {p l : Nat → Int} {m : Nat} {σ0 : SG} (ho : o < 2) (hR0 : XRow r p l m σ0) (hS : rowS p l m) : ∀ (d fuel k : Nat) (σ : SG) (l2 l3 : Int32), d < fuel → k + d = m → frL o σ0 σ → XLd o p l k σ → l2.toInt = uS l k → l3.toInt = k → uOk (m_X3_fill_14 o r fuel σ l2 l3) (fun _ s => frL o σ0 s ∧ XLd o p l m s) := by
  intro d
  induction d with
  | zero =>
    intro fuel k σ l2 l3 hf hd hF hL h2 h3
    cases fuel with
    | zero => omega
    | succ fuel =>
      obtain ⟨r1, r2, r3, r4⟩ := hR0.K (hF.K ho)
      show uOk (m_X3_fill_14_s o r _ σ l2 l3) _
      unfold m_X3_fill_14_s
      exact ok_ite (fun _ => ok_r ⟨hF, by rw [show k = m by omega] at hL; exact hL⟩) (fun q => absurd (z_le.mpr (by rw [r3, h3]; omega)) q)
  | succ d ih =>
    intro fuel k σ l2 l3 hf hd hF hL h2 h3
    cases fuel with
    | zero => omega
    | succ fuel =>
      have hR := hR0.K (hF.K ho)
      obtain ⟨r1, r2, r3, r4⟩ := id hR
      have e1 := lenX_row (show r < 9 by omega)
      have e2 : rcap r = 24 := by unfold rcap; rw [if_neg (by omega)]
      have hk : k < m := by omega
      have b := hS.2 k hk
      have bg := hS.bg k (by omega)
      have un := hS.un k (by omega)
      have ua := hS.ua hk
      have rl := uRk_le (p := p) k
      have m95 : ∀ s : SG, frL o σ0 s → XLd o p l (k + 1) s → uOk (m_X3_fill_95 o r (m_X3_fill_14 o r fuel) s l2 l3) (fun _ s => frL o σ0 s ∧ XLd o p l m s) := fun s fs xs => by
        obtain ⟨-, -, -, q4⟩ := hR0.K (fs.K ho)
        unfold m_X3_fill_95
        rw [e1.2, e2, z_nv h3]
        refine ok_i (by omega) (ok_l fun v27 e27 => ok_l fun v29 e29 => ih fuel (k + 1) s v27 v29 (by omega) (by omega) fs xs ?_ ?_)
        · rw [e27, z_addv h2 (q4 k hk).2 (by omega) (by omega)]; rfl
        · rw [e29, z_add1 (by omega), h3]; rfl
      show uOk (m_X3_fill_14_s o r _ σ l2 l3) _
      unfold m_X3_fill_14_s
      refine ok_ite (fun q => absurd (z_le.mp q) (by rw [r3, h3]; omega)) (fun _ => ok_b (x_isRest hR hk h3) (fun v6 s ⟨es, h6⟩ => ?_))
      rw [es]
      refine ok_ite (fun q => ?_) (fun q => ?_)
      · have pk : p k = -1 := Classical.not_not.mp (fun z => q (h6.mpr z))
        refine m95 σ hF ⟨?_, ?_, fun j hj hp => hL.2.2 j ?_ hp⟩
        · rw [(uRk_s k).1 (by omega)]; exact hL.1
        · show _ = uS (uA p l) k + uA p l k
          rw [hL.2.1]; unfold uA; rw [if_pos (by omega)]; omega
        · by_cases z : j = k
          · rw [z] at hp; omega
          · omega
      · have pk : ¬ p k = -1 := h6.mp (Classical.not_not.mp q)
        have cn : (σ.1 (208 + o) 3).toInt = uRk p k := hL.1
        rw [e1.1, e1.2, e2, z_nv h3, z_nv cn]
        refine ok_i (by omega) (ok_i (by omega) (ok_l fun s12 q12 => ?_))
        have c12 : (s12.1 (208 + o) 3).toInt = uRk p k := by rw [q12, g_sI, if_neg (by omega)]; exact cn
        rw [z_nv c12]
        refine ok_i (by omega) (ok_l fun s15 q15 => ?_)
        have c15 : (s15.1 (208 + o) 3).toInt = uRk p k := by rw [q15, g_sI, if_neg (by omega)]; exact c12
        rw [z_nv c15]
        refine ok_i (by omega) (ok_i (by omega) (ok_l fun s19 q19 => ok_i (by omega) (ok_l fun s22 q22 => ok_l fun s24 q24 => ?_)))
        have f12 : frL o σ0 s12 := by rw [q12]; exact hF.sI (by omega)
        have f15 : frL o σ0 s15 := by rw [q15]; exact f12.sI (by omega)
        have f19 : frL o σ0 s19 := by rw [q19]; exact f15.sI (by omega)
        have f22 : frL o σ0 s22 := by rw [q22]; exact f19.sI (by omega)
        have f24 : frL o σ0 s24 := by rw [q24]; exact f22.sI (by omega)
        have l15 : (s15.1 (2 * r + 1) k).toInt = l k := ((hR0.K (f15.K ho)).2.2.2 k hk).2
        have l19 : (s19.1 (2 * r + 1) k).toInt = l k := ((hR0.K (f19.K ho)).2.2.2 k hk).2
        refine m95 s24 f24 ⟨?_, ?_, fun j hj hp => ⟨?_, ?_, ?_⟩⟩
        · rw [q24, g_sI_s]
          have c22 : (s22.1 (208 + o) 3).toInt = uRk p k := by rw [q22, g_sI, if_neg (by omega), q19, g_sI, if_neg (by omega)]; exact c15
          rw [z_add1 (by omega), c22, (uRk_s k).2 (by omega)]; rfl
        · rw [q24, g_sI, if_neg (by omega), q22, g_sI_s]
          have u19 : (s19.1 (208 + o) 4).toInt = uS (uA p l) k := by rw [q19, g_sI, if_neg (by omega), q15, g_sI, if_neg (by omega), q12, g_sI, if_neg (by omega)]; exact hL.2.1
          have ek : uA p l k = l k := by unfold uA; rw [if_neg (by omega)]
          rw [z_addv u19 l19 (by omega) (by omega)]
          show _ = uS (uA p l) k + uA p l k
          rw [ek]
        · rw [q24, g_sI, if_neg (by omega), q22, g_sI, if_neg (by omega), q19, g_sI, if_neg (by omega), q15, g_sI, if_neg (by omega), q12, g_sI]
          by_cases z : j = k
          · rw [if_pos ⟨rfl, by rw [z]⟩, z]; exact (r4 k hk).1
          · have := uRk_lt (show j < k by omega) hp
            rw [if_neg (by omega)]; exact (hL.2.2 j (by omega) hp).1
        · rw [q24, g_sI, if_neg (by omega), q22, g_sI, if_neg (by omega), q19, g_sI, if_neg (by omega), q15, g_sI]
          by_cases z : j = k
          · rw [if_pos ⟨rfl, by rw [z]⟩, z]; exact h2
          · have := uRk_lt (show j < k by omega) hp
            rw [if_neg (by omega), q12, g_sI, if_neg (by omega)]; exact (hL.2.2 j (by omega) hp).2.1
        · rw [q24, g_sI, if_neg (by omega), q22, g_sI, if_neg (by omega), q19, g_sI]
          by_cases z : j = k
          · rw [if_pos ⟨rfl, by rw [z]⟩, z]; exact l15
          · have := uRk_lt (show j < k by omega) hp
            rw [if_neg (by omega), q15, g_sI, if_neg (by omega), q12, g_sI, if_neg (by omega)]; exact (hL.2.2 j (by omega) hp).2.2
theorem x_fillL {o r : Nat} {p l : Nat → Int} {m : Nat} {σ : SG} (ho : o < 2) (hR : XRow r p l m σ) (hS : rowS p l m) : uOk (m_X3_fill o r σ) (fun _ s => frL o σ s ∧ XLd o p l m s) := by
  have hm := hS.1
  unfold m_X3_fill m_X3_fill_0
  refine ok_l fun s1 e1 => ok_l fun s3 e3 => x_fill14 ho hR hS m FV 0 s3 0 0 (FV_big (by omega)) (by omega) (by rw [e3, e1]; exact (frL.rf.sI (by omega)).sI (by omega)) ⟨?_, ?_, fun j hj => by omega⟩ rfl rfl
  · rw [e3, g_sI, if_neg (by omega), e1, g_sI_s]; rfl
  · rw [e3, g_sI_s]; rfl
/-- both loads: the one of less units gives -/
theorem x_load {r t : Nat} {p l q m : Nat → Int} {M N : Nat} {σ : SG} (hR : XRow r p l M σ) (hT : XRow t q m N σ) (hp : rowS p l M) (hq : rowS q m N) : uOk (m_X0_load r t σ) (fun _ s => frK σ s ∧ ((uS (uA p l) M ≤ uS (uA q m) N ∧ XLd 0 p l M s ∧ XLd 1 q m N s) ∨ (uS (uA q m) N < uS (uA p l) M ∧ XLd 0 q m N s ∧ XLd 1 p l M s))) := by
  unfold m_X0_load m_X0_load_0
  refine ok_b (x_fillL (by omega) hR hp) (fun _ s2 ⟨f2, g2⟩ => ok_b (x_fillL (o := 1) (by omega) (hT.K (f2.K (by omega))) hq) (fun _ s5 ⟨f5, g5⟩ => ?_))
  have g2' := g2.L f5 (by omega) (by omega) (by omega)
  have fk := (f2.K (by omega)).tr (f5.K (by omega))
  refine ok_ite (fun z => ok_r ⟨fk, Or.inl ⟨?_, g2', g5⟩⟩) (fun z => ?_)
  · rw [z_le, g2'.2.1, g5.2.1] at z; exact z
  · rw [z_le, g2'.2.1, g5.2.1] at z
    refine ok_b (x_fillL (o := 0) (by omega) (hT.K fk) hq) (fun _ s9 ⟨f9, g9⟩ => ok_b (x_fillL (o := 1) (by omega) ((hR.K fk).K (f9.K (by omega))) hp) (fun _ s12 ⟨f12, g12⟩ => ok_r ⟨(fk.tr (f9.K (by omega))).tr (f12.K (by omega)), Or.inr ⟨by omega, g9.L f12 (by omega) (by omega) (by omega), g12⟩⟩))
