/-! ===== the model's ways to the ends: cost, and of like ones the later place ===== -/
def Sd (d : WD) (p : Nat) (e : Int) : Prop := p ≤ wm d ∧ e = 24 - p
theorem wsb_f {d : WD} {i : Nat} : ∀ (k j : Nat), uwsb d i j (k + 1) = wpr d i j + uwsb d i (j + 1) k
  | 0, j => by show (0 : Int) + wpr d i (j + 0) = wpr d i j + 0; simp
  | k + 1, j => by
    have ih := wsb_f (d := d) (i := i) k j
    show uwsb d i j (k + 1) + wpr d i (j + (k + 1)) = wpr d i j + (uwsb d i (j + 1) k + wpr d i (j + 1 + k))
    rw [ih, show j + (k + 1) = j + 1 + k by omega]
    omega
theorem wlbs_f {d : WD} : ∀ (k j : Nat), wlbs d j (k + 1) = wlb d j + wlbs d (j + 1) k
  | 0, j => by show (0 : Int) + wlb d (j + 0) = wlb d j + 0; simp
  | k + 1, j => by
    have ih := wlbs_f (d := d) k j
    show wlbs d j (k + 1) + wlb d (j + (k + 1)) = wlb d j + (wlbs d (j + 1) k + wlb d (j + 1 + k))
    rw [ih, show j + (k + 1) = j + 1 + k by omega]
    omega
theorem wsa_f {d : WD} {j : Nat} : ∀ (k i : Nat), wsa d i j (k + 1) = wpr d i j + wsa d (i + 1) j k
  | 0, i => by show (0 : Int) + wpr d (i + 0) j = wpr d i j + 0; simp
  | k + 1, i => by
    have ih := wsa_f (j := j) (d := d) k i
    show wsa d i j (k + 1) + wpr d (i + (k + 1)) j = wpr d i j + (wsa d (i + 1) j k + wpr d (i + 1 + k) j)
    rw [ih, show i + (k + 1) = i + 1 + k by omega]
    omega
theorem wlas_f {d : WD} : ∀ (k i : Nat), wlas d i (k + 1) = wla d i + wlas d (i + 1) k
  | 0, i => by show (0 : Int) + wla d (i + 0) = wla d i + 0; simp
  | k + 1, i => by
    have ih := wlas_f (d := d) k i
    show wlas d i (k + 1) + wla d (i + (k + 1)) = wla d i + (wlas d (i + 1) k + wla d (i + 1 + k))
    rw [ih, show i + (k + 1) = i + 1 + k by omega]
    omega
def Ec (σ : SG) (i j : Nat) : Int := (σ.1 12 (25 * i + j)).toInt
def Ef (σ : SG) (i j : Nat) : Int := (σ.1 13 (25 * i + j)).toInt
def uEn (σ : SG) (i j : Nat) : Int := 32 * Ec σ i j + 24 - Ef σ i j
/-- a cell that is done -/
def Dn (d : WD) (σ : SG) (i j : Nat) : Prop := 0 ≤ Ef σ i j ∧ Ef σ i j ≤ 24 ∧ IsMin (Rch d (Sd d) i j) (uEn σ i j)
theorem alone_q {d : WD} (h : WB d) (j : Nat) : ∀ i, i ≤ wn d → ∃ c, Pth d 0 j i j c ∧ c ≤ 64000 * i
  | 0, _ => ⟨0, Pth.rf, by omega⟩
  | i + 1, q => by
    obtain ⟨c, h1, h2⟩ := alone_q h j i (by omega)
    have b := alA_b h (i := i) (by omega)
    exact ⟨_, h1.snoc (Or.inl ⟨by omega, rfl, rfl, rfl⟩), by omega⟩
theorem Rch.lo {d : WD} (h : WB d) {i j : Nat} {v : Int} (q : Rch d (Sd d) i j v) : 0 ≤ v := by
  obtain ⟨p, e, c, ⟨h1, h2⟩, h3, h4⟩ := q
  have := (h3.b h).1
  have := h.2.1
  omega
theorem Dn.b {d : WD} (h : WB d) {σ : SG} {i j : Nat} (hi : i ≤ wn d) (hj : j ≤ wm d) (q : Dn d σ i j) : 0 ≤ Ec σ i j ∧ Ec σ i j ≤ 1536001 := by
  obtain ⟨c, h1, h2⟩ := alone_q h j i hi
  have h3 := q.2.2.2 _ ⟨j, 24 - j, c, ⟨hj, rfl⟩, h1, rfl⟩
  have h4 := q.2.2.1.lo h
  have h5 := h.1
  have h6 := q.1
  have h7 := q.2.1
  unfold uEn at h3 h4
  omega
/-- the cell at work: what it holds is reached, and no dearer than by the steps seen so far -/
def Cw (d : WD) (σ : SG) (i j : Nat) (C : Nat → Nat → Int → Prop) : Prop := ((Ec σ i j = 2147483647 ∧ Ef σ i j = -1) ∨ (0 ≤ Ef σ i j ∧ Ef σ i j ≤ 24 ∧ Ec σ i j < 2147483647 ∧ Rch d (Sd d) i j (uEn σ i j))) ∧ (∀ x y c v, C x y c → Rch d (Sd d) x y v → uEn σ i j ≤ v + 32 * c) ∧ (i = 0 → uEn σ i j ≤ 24 - j)
theorem Cw.mono {d : WD} {σ : SG} {i j : Nat} {C C' : Nat → Nat → Int → Prop} (h : Cw d σ i j C) (q : ∀ x y z, C' x y z → C x y z) : Cw d σ i j C' := ⟨h.1, fun x y c v hC hR => h.2.1 x y c v (q x y c hC) hR, h.2.2⟩
theorem Cw.fin {d : WD} (hB : WB d) {σ : SG} {i j : Nat} {C : Nat → Nat → Int → Prop} (hi : i ≤ wn d) (hj : j ≤ wm d) (h : Cw d σ i j C) (q : ∀ x y c, uStp d x y i j c → C x y c) : Dn d σ i j := by
  obtain ⟨h1, h2, h3⟩ := h
  have hl : ∀ v, Rch d (Sd d) i j v → uEn σ i j ≤ v := fun v hv => by
    obtain ⟨p, e, c, hS, ⟨k, hk⟩, rfl⟩ := hv
    cases k with
    | zero =>
      obtain ⟨e1, e2, e3⟩ := hk
      have := h3 e1
      have := hS.2
      omega
    | succ k =>
      obtain ⟨x, y, c1, c2, g1, g2, g3⟩ := hk
      have := h2 x y c2 (e + 32 * c1) (q x y c2 g2) ⟨p, e, c1, hS, ⟨k, g1⟩, rfl⟩
      omega
  rcases h1 with ⟨a1, a2⟩ | ⟨a1, a2, a3, a4⟩
  · obtain ⟨c, g1, g2⟩ := alone_q hB j i hi
    have h9 := hl _ ⟨j, 24 - j, c, ⟨hj, rfl⟩, g1, rfl⟩
    have := hB.1
    unfold uEn at h9
    omega
  · exact ⟨a1, a2, a4, hl⟩
/-- only the cell (i, j) of the two tables changes -/
def frE (i j : Nat) (σ σ' : SG) : Prop := (∀ k x, ¬ ((k = 12 ∨ k = 13) ∧ x = 25 * i + j) → σ'.1 k x = σ.1 k x) ∧ σ'.2 = σ.2
theorem frE.rf {i j : Nat} {σ : SG} : frE i j σ σ := ⟨fun _ _ _ => rfl, rfl⟩
theorem frE.tr {i j : Nat} {σ σ1 σ2 : SG} (h : frE i j σ σ1) (q : frE i j σ1 σ2) : frE i j σ σ2 := ⟨fun k x z => (q.1 k x z).trans (h.1 k x z), q.2.trans h.2⟩
theorem frE.sI {i j k x : Nat} {v : Int32} {σ σ1 : SG} (h : frE i j σ σ1) (q : (k = 12 ∨ k = 13) ∧ x = 25 * i + j) : frE i j σ (sI σ1 k x v) := ⟨fun k' x' z => by rw [g_sI, if_neg (by omega)]; exact h.1 k' x' z, h.2⟩
theorem frE.M {i j : Nat} {σ σ' : SG} (h : frE i j σ σ') : frM [9] σ σ' := ⟨fun k x z => h.1 k x (fun y => by
  rcases y with ⟨rfl | rfl, -⟩
  · exact absurd (by show (9 : Nat) ∈ _; decide) z
  · exact absurd (by show (9 : Nat) ∈ _; decide) z), fun _ => by rw [h.2], by rw [h.2]⟩
theorem frE.o {i j x y : Nat} {σ σ' : SG} (h : frE i j σ σ') (hy : y < 25) (hj : j < 25) (q : x ≠ i ∨ y ≠ j) : Ec σ' x y = Ec σ x y ∧ Ef σ' x y = Ef σ x y := by
  unfold Ec Ef
  rw [h.1 12 _ (by omega), h.1 13 _ (by omega)]
  exact ⟨rfl, rfl⟩
theorem m_better {d : WD} (hB : WB d) {σ : SG} {i j x y : Nat} {c : Int} {C : Nat → Nat → Int → Prop} {p0 p1 p2 : Int32} (hi : i ≤ 12) (hj : j ≤ 24) (hx : x ≤ wn d) (hy : y ≤ wm d) (hs : uStp d x y i j c) (hD : Dn d σ x y) (hC : Cw d σ i j C) (h0 : p0.toInt = (25 * i + j : Nat)) (h1 : p1.toInt = Ec σ x y + c) (h2 : p2.toInt = Ef σ x y) :
    uOk (m_X12_better σ p0 p1 p2) (fun _ σ' => frE i j σ σ' ∧ Cw d σ' i j (fun a b z => C a b z ∨ (a = x ∧ b = y ∧ z = c))) := by
  have b := hs.b hB
  have db := hD.b hB hx hy
  have hd1 := hD.1
  have hd2 := hD.2.1
  have hR : Rch d (Sd d) i j (32 * (Ec σ x y + c) + 24 - Ef σ x y) := by
    obtain ⟨p, e, c0, r1, r2, r3⟩ := hD.2.2.1
    exact ⟨p, e, c0 + c, r1, r2.snoc hs, by unfold uEn at r3; omega⟩
  have keep : uEn σ i j ≤ 32 * (Ec σ x y + c) + 24 - Ef σ x y → Cw d σ i j (fun a b z => C a b z ∨ (a = x ∧ b = y ∧ z = c)) := fun h => ⟨hC.1, fun a b' z v hz hv => by
    rcases hz with hz | ⟨rfl, rfl, rfl⟩
    · exact hC.2.1 a b' z v hz hv
    · have := hD.2.2.2 v hv
      unfold uEn at this h
      unfold uEn
      omega, hC.2.2⟩
  have put : 32 * (Ec σ x y + c) + 24 - Ef σ x y ≤ uEn σ i j → uOk (m_X12_better_30 σ p0 p1 p2) (fun _ σ' => frE i j σ σ' ∧ Cw d σ' i j (fun a b z => C a b z ∨ (a = x ∧ b = y ∧ z = c))) := fun h => by
    unfold m_X12_better_30
    rw [z_nv h0]
    refine ok_i (by omega) (ok_l fun s1 e1 => ok_i (by omega) (ok_l fun s2 e2 => ok_r ?_))
    have hc : Ec s2 i j = Ec σ x y + c := by unfold Ec; rw [e2, g_sI, if_neg (by omega), e1, g_sI_s, h1]; rfl
    have hf : Ef s2 i j = Ef σ x y := by unfold Ef; rw [e2, g_sI_s, h2]; rfl
    have hn : uEn s2 i j = 32 * (Ec σ x y + c) + 24 - Ef σ x y := by unfold uEn; rw [hc, hf]
    refine ⟨by rw [e2, e1]; exact (frE.rf.sI ⟨Or.inl rfl, rfl⟩).sI ⟨Or.inr rfl, rfl⟩, Or.inr ⟨by omega, by omega, by omega, by rw [hn]; exact hR⟩, fun a b' z v hz hv => ?_, fun hi0 => ?_⟩
    · rw [hn]
      rcases hz with hz | ⟨rfl, rfl, rfl⟩
      · exact Int.le_trans h (hC.2.1 a b' z v hz hv)
      · have := hD.2.2.2 v hv
        unfold uEn at this
        omega
    · rw [hn]; exact Int.le_trans h (hC.2.2 hi0)
  unfold m_X12_better m_X12_better_0
  rw [z_nv h0]
  have ec : (σ.1 12 (25 * i + j)).toInt = Ec σ i j := rfl
  have ef : (σ.1 13 (25 * i + j)).toInt = Ef σ i j := rfl
  have hcur : (Ec σ i j = 2147483647 ∧ Ef σ i j = -1) ∨ (0 ≤ Ef σ i j ∧ Ef σ i j ≤ 24 ∧ Ec σ i j < 2147483647) := by
    rcases hC.1 with a | a
    · exact Or.inl a
    · exact Or.inr ⟨a.1, a.2.1, a.2.2.1⟩
  refine ok_i (by omega) (ok_ite (fun q => put ?_) (fun q => ok_i (by omega) (ok_ite (fun q2 => ok_r ⟨frE.rf, keep ?_⟩) (fun q2 => ok_i (by omega) (ok_ite (fun q3 => ok_r ⟨frE.rf, keep ?_⟩) (fun q3 => put ?_))))))
  · rw [z_lt, h1, ec] at q
    unfold uEn; omega
  · rw [z_lt, h1, ec] at q
    rw [z_eq, h1, ec] at q2
    unfold uEn; omega
  · rw [z_eq, h1, ec, Classical.not_not] at q2
    rw [z_le, h2, ef] at q3
    unfold uEn; omega
  · rw [z_eq, h1, ec, Classical.not_not] at q2
    rw [z_le, h2, ef] at q3
    unfold uEn; omega
def rtA (d : WD) (i j x y : Nat) (z : Int) : Prop := i = x + 1 ∧ y = j ∧ x < wn d ∧ z = wK d 2 * wla d x
def rtB (d : WD) (i j x y : Nat) (z : Int) : Prop := x = i ∧ j = y + 1 ∧ y < wm d ∧ z = wK d 3 * wlb d y
def rtSB (d : WD) (k i j x y : Nat) (z : Int) : Prop := ∃ q, 1 ≤ q ∧ q < k ∧ i = x + 1 ∧ j = y + q ∧ z = ucB d x y q
def rtSA (d : WD) (k i j x y : Nat) (z : Int) : Prop := ∃ q, 1 ≤ q ∧ q < k ∧ j = y + 1 ∧ i = x + q ∧ z = cA d x y q
section MR
variable {d : WD} {t : Nat} {P : Unit → SG → Prop} {c17 : SG → Int32 → Int32 → Int32 → Int32 → Int32 → Int32 → Option (Unit × SG)} {c32 : SG → Int32 → Int32 → Int32 → Int32 → Int32 → Int32 → Int32 → Option (Unit × SG)} {l1 l2 l3 l4 l5 l6 l7 l8 : Int32} {i j : Nat} {σ : SG}
def MRk (d : WD) (t i j : Nat) (l1 l2 l3 l4 l5 l6 l7 l8 : Int32) : Prop := l1.toInt = t ∧ l2.toInt = uws d ∧ l3.toInt = 25 ∧ l4.toInt = 192 ∧ l5.toInt = (24 * t : Nat) ∧ l6.toInt = i ∧ l7.toInt = j ∧ l8.toInt = (25 * i + j : Nat) ∧ i ≤ wn d ∧ j ≤ wm d ∧ wn d ≤ 12 ∧ t < 8
/-- all cells before (i, j) are done -/
def RI (d : WD) (σ : SG) (i j : Nat) : Prop := ∀ x y, x ≤ wn d → y ≤ wm d → (x < i ∨ (x = i ∧ y < j)) → Dn d σ x y
theorem RI.fr {σ' : SG} (hB : WB d) (h : RI d σ i j) (f : frE i j σ σ') (hj : j ≤ wm d) : RI d σ' i j := fun x y hx hy hxy => by
  have b := hB.2.1
  have := f.o (x := x) (y := y) (by omega) (by omega) (by omega)
  have h1 := h x y hx hy hxy
  unfold Dn uEn at *
  rw [this.1, this.2]
  exact h1
theorem m_r329 (hB : WB d) (hk : MRk d t i j l1 l2 l3 l4 l5 l6 l7 l8)
    (kk : ∀ σ', frE i j σ σ' → Dn d σ' i j → ∀ v : Int32, v.toInt = ((j + 1 : Nat) : Int) → uOk (c32 σ' l1 l2 l3 l4 l5 l6 v) P) :
    ∀ (r fuel k : Nat) (s : SG) (l9 l10 l11 : Int32), r < fuel → k + r = 5 → 1 ≤ k → WMd d 192 (24 * t) s → RI d s i j → frE i j σ s → l11.toInt = k → (k = 1 ∨ (0 < j ∧ k - 1 ≤ i)) → l9.toInt = wsa d (i - (k - 1)) (j - 1) (k - 1) → l10.toInt = wlas d (i - (k - 1)) (k - 1) → Cw d s i j (fun x y z => rtA d i j x y z ∨ rtB d i j x y z ∨ rtSB d 5 i j x y z ∨ rtSA d k i j x y z) → uOk (m_X12_reachEnds_329 c17 c32 fuel s l1 l2 l3 l4 l5 l6 l7 l8 l9 l10 l11) P := by
  obtain ⟨e1, e2, e3, e4, e5, e6, e7, e8, hi, hj, hn12, ht⟩ := id hk
  have h1 := hB.1
  have h2 := hB.2.1
  have kn1 : ((1 : Int32)).toInt = 1 := rfl
  have kn4 : ((4 : Int32)).toInt = 4 := rfl
  have k0 : ((0 : Int32)).toInt = 0 := rfl
  have out : ∀ (k : Nat) (s : SG), frE i j σ s → (4 < k ∨ j = 0 ∨ i < k) → Cw d s i j (fun x y z => rtA d i j x y z ∨ rtB d i j x y z ∨ rtSB d 5 i j x y z ∨ rtSA d k i j x y z) → uOk (m_X12_reachEnds_456 c17 c32 s l1 l2 l3 l4 l5 l6 l7) P := fun k s hF hq hc => by
    unfold m_X12_reachEnds_456
    refine ok_l fun v ev => kk s hF (hc.fin hB hi hj (fun x y z hs => ?_)) v (by rw [ev, z_add1 (by omega), e7]; rfl)
    rcases hs with ⟨q1, q2, q3, q4⟩ | ⟨q1, q2, q3, q4⟩ | ⟨q, q1, q2, q3, q4, q5, q6, q7⟩ | ⟨q, q1, q2, q3, q4, q5, q6, q7⟩
    · exact Or.inl ⟨by omega, by omega, q1, q4⟩
    · exact Or.inr (Or.inl ⟨by omega, by omega, q1, q4⟩)
    · exact Or.inr (Or.inr (Or.inl ⟨q, q1, by omega, by omega, by omega, q7⟩))
    · exact Or.inr (Or.inr (Or.inr ⟨q, q1, by omega, by omega, by omega, q7⟩))
  intro r
  induction r with
  | zero =>
    intro fuel k s l9 l10 l11 hf hr hk1 hM hR hF h11 hkk h9 h10 hc
    cases fuel with
    | zero => omega
    | succ fuel =>
      show uOk (m_X12_reachEnds_329_s c17 c32 _ s l1 l2 l3 l4 l5 l6 l7 l8 l9 l10 l11) P
      unfold m_X12_reachEnds_329_s
      exact ok_ite (fun _ => out k s hF (by omega) hc) (fun q => absurd (z_lt.mpr (by rw [h11, kn4]; omega)) q)
  | succ r ih =>
    intro fuel k s l9 l10 l11 hf hr hk1 hM hR hF h11 hkk h9 h10 hc
    cases fuel with
    | zero => omega
    | succ fuel =>
      show uOk (m_X12_reachEnds_329_s c17 c32 _ s l1 l2 l3 l4 l5 l6 l7 l8 l9 l10 l11) P
      unfold m_X12_reachEnds_329_s
      refine ok_ite (fun q => absurd (z_lt.mp q) (by rw [h11, kn4]; omega)) (fun _ => ok_ite (fun q => out k s hF (by rw [z_le, e7, k0] at q; omega) hc) (fun q1 => ok_ite (fun q => out k s hF (by rw [z_lt, e6, h11] at q; omega) hc) (fun q2 => ?_)))
      rw [z_le, e7, k0] at q1
      rw [z_lt, e6, h11] at q2
      obtain ⟨m1, m2, m3, m4, m5⟩ := id hM
      have ea : (l4 + l6 - l11).toInt = (192 + (i - k) : Nat) := by
        rw [z_subv (z_addv e4 e6 (by omega) (by omega)) h11 (by omega) (by omega)]; omega
      have eb : (l5 + l7 - 1).toInt = (24 * t + (j - 1) : Nat) := by
        rw [z_subv (z_addv e5 e7 (by omega) (by omega)) kn1 (by omega) (by omega)]; omega
      refine ok_b (m_pair hB hM (i := i - k) (j := j - 1) (by omega) (by omega) ea eb e2) (fun v62 s' hv => ?_)
      obtain ⟨rfl, hv⟩ := hv
      have wp := wpr_b hB (i := i - k) (j := j - 1) (by omega) (by omega)
      have wa := wsa_b hB (i := i - (k - 1)) (j := j - 1) (by omega) (k - 1) (by omega)
      have wa' := wsa_b hB (i := i - k) (j := j - 1) (by omega) k (by omega)
      have wl := wlas_b hB (i := i - (k - 1)) (k - 1) (by omega)
      have wl' := wlas_b hB (i := i - k) k (by omega)
      have sk : wsa d (i - k) (j - 1) k = wpr d (i - k) (j - 1) + wsa d (i - (k - 1)) (j - 1) (k - 1) := by
        have := wsa_f (d := d) (j := j - 1) (k - 1) (i - k)
        rw [show k - 1 + 1 = k by omega, show i - k + 1 = i - (k - 1) by omega] at this
        exact this
      have lk : wlas d (i - k) k = wla d (i - k) + wlas d (i - (k - 1)) (k - 1) := by
        have := wlas_f (d := d) (k - 1) (i - k)
        rw [show k - 1 + 1 = k by omega, show i - k + 1 = i - (k - 1) by omega] at this
        exact this
      refine ok_l fun v65 e65 => ?_
      have h65 : v65.toInt = wsa d (i - k) (j - 1) k := by rw [e65, z_addv h9 hv (by omega) (by omega), sk]; omega
      rw [z_nv ea, z_nv eb]
      have ml := m3 (i - k) (by omega)
      have mb := m4 (j - 1) (by omega)
      have bl := hB.2.2.1 (i - k) (by omega)
      have bb := hB.2.2.2.1 (j - 1) (by omega)
      refine ok_i (by omega) (ok_l fun v68 e68 => ok_l fun v70 e70 => ?_)
      have h68 : v68.toInt = wlas d (i - k) k := by rw [e68, z_addv h10 ml.2 (by omega) (by omega), lk]; omega
      have h70 : v70.toInt = (25 * (i - k) + (j - 1) : Nat) := by
        rw [e70, z_subv (z_subv e8 (z_mulv e3 h11 (by omega) (by omega)) (by omega) (by omega)) kn1 (by omega) (by omega)]; omega
      rw [z_nv h70]
      refine ok_i (by omega) (ok_i ⟨by decide, by decide⟩ (ok_i (by omega) (ok_l fun v75 e75 => ok_i (by omega) ?_)))
      have h75 : v75.toInt = zabs (wlas d (i - k) k - wlb d (j - 1)) := by rw [e75]; exact z_absv (z_subv h68 mb.2 (by omega) (by omega)) (by omega)
      have zb := zabs_b (x := wlas d (i - k) k - wlb d (j - 1)) (b := 256) (by omega) (by omega)
      have k1 := hB.2.2.2.2.1 1 (by omega)
      have p1 : (s'.1 4 (1 : Int32).toNatClampNeg).toInt = wK d 1 := m5 1 (by omega)
      have mb1 := mul_b k1.1 k1.2 zb.1 zb.2
      have hD := hR (i - k) (j - 1) (by omega) (by omega) (by omega)
      have db := hD.b hB (by omega) (by omega)
      have cb := cA_b hB (i := i - k) (j := j - 1) (k := k) (by omega) (by omega) (by omega)
      have hs : uStp d (i - k) (j - 1) i j (cA d (i - k) (j - 1) k) := Or.inr (Or.inr (Or.inr ⟨k, by omega, by omega, by omega, by omega, by omega, by omega, rfl⟩))
      have hcost : (s'.1 12 (25 * (i - k) + (j - 1)) + s'.1 4 (1 : Int32).toNatClampNeg * v75 + v65).toInt = Ec s' (i - k) (j - 1) + cA d (i - k) (j - 1) k := by
        rw [z_addv (z_addv (show (s'.1 12 (25 * (i - k) + (j - 1))).toInt = Ec s' (i - k) (j - 1) from rfl) (z_mulv p1 h75 (by omega) (by omega)) (by omega) (by omega)) h65 (by unfold cA at *; omega) (by unfold cA at *; omega)]
        unfold cA
        omega
      refine ok_b (m_better hB (by omega) (by omega) (by omega) (by omega) hs hD hc e8 hcost rfl) (fun _ s2 h2' => ok_l fun v81 e81 => ?_)
      refine ih fuel (k + 1) s2 v65 v68 v81 (by omega) (by omega) (by omega) (hM.fr h2'.1.M (by decide) (by decide)) (hR.fr hB h2'.1 hj) (hF.tr h2'.1) (by rw [e81, z_add1 (by omega), h11]; rfl) (Or.inr ⟨by omega, by omega⟩) h65 h68 (h2'.2.mono (fun x y z hz => ?_))
      rcases hz with hz | hz | hz | ⟨q, g1, g2, g3, g4, g5⟩
      · exact Or.inl (Or.inl hz)
      · exact Or.inl (Or.inr (Or.inl hz))
      · exact Or.inl (Or.inr (Or.inr (Or.inl hz)))
      · by_cases hqk : q = k
        · refine Or.inr ⟨by omega, by omega, ?_⟩
          rw [g5, hqk, show x = i - k by omega, show y = j - 1 by omega]
        · exact Or.inl (Or.inr (Or.inr (Or.inr ⟨q, g1, by omega, g3, g4, g5⟩)))
theorem m_r195 (hB : WB d) (hk : MRk d t i j l1 l2 l3 l4 l5 l6 l7 l8)
    (kk : ∀ σ', frE i j σ σ' → Dn d σ' i j → ∀ v : Int32, v.toInt = ((j + 1 : Nat) : Int) → uOk (c32 σ' l1 l2 l3 l4 l5 l6 v) P) :
    ∀ (r fuel k : Nat) (s : SG) (l9 l10 l11 : Int32), r < fuel → k + r = 5 → 1 ≤ k → WMd d 192 (24 * t) s → RI d s i j → frE i j σ s → l11.toInt = k → (k = 1 ∨ (0 < i ∧ k - 1 ≤ j)) → l9.toInt = uwsb d (i - 1) (j - (k - 1)) (k - 1) → l10.toInt = wlbs d (j - (k - 1)) (k - 1) → Cw d s i j (fun x y z => rtA d i j x y z ∨ rtB d i j x y z ∨ rtSB d k i j x y z) → uOk (m_X12_reachEnds_195 c17 c32 fuel s l1 l2 l3 l4 l5 l6 l7 l8 l9 l10 l11) P := by
  obtain ⟨e1, e2, e3, e4, e5, e6, e7, e8, hi, hj, hn12, ht⟩ := id hk
  have h1 := hB.1
  have h2 := hB.2.1
  have kn1 : ((1 : Int32)).toInt = 1 := rfl
  have kn4 : ((4 : Int32)).toInt = 4 := rfl
  have k0 : ((0 : Int32)).toInt = 0 := rfl
  have out : ∀ (k : Nat) (s : SG), WMd d 192 (24 * t) s → RI d s i j → frE i j σ s → (4 < k ∨ i = 0 ∨ j < k) → Cw d s i j (fun x y z => rtA d i j x y z ∨ rtB d i j x y z ∨ rtSB d k i j x y z) → uOk (m_X12_reachEnds_320 c17 c32 s l1 l2 l3 l4 l5 l6 l7 l8) P := fun k s hM hR hF hq hc => by
    unfold m_X12_reachEnds_320
    refine m_r329 hB hk kk 4 FV 1 s 0 0 1 (FV_big (by omega)) (by omega) (by omega) hM hR hF rfl (Or.inl rfl) rfl rfl (hc.mono (fun x y z hs => ?_))
    rcases hs with hs | hs | ⟨q, q1, q2, q3, q4, q5⟩ | ⟨q, q1, q2, q3, q4, q5⟩
    · exact Or.inl hs
    · exact Or.inr (Or.inl hs)
    · exact Or.inr (Or.inr ⟨q, q1, by omega, q3, q4, q5⟩)
    · omega
  intro r
  induction r with
  | zero =>
    intro fuel k s l9 l10 l11 hf hr hk1 hM hR hF h11 hkk h9 h10 hc
    cases fuel with
    | zero => omega
    | succ fuel =>
      show uOk (m_X12_reachEnds_195_s c17 c32 _ s l1 l2 l3 l4 l5 l6 l7 l8 l9 l10 l11) P
      unfold m_X12_reachEnds_195_s
      exact ok_ite (fun _ => out k s hM hR hF (by omega) hc) (fun q => absurd (z_lt.mpr (by rw [h11, kn4]; omega)) q)
  | succ r ih =>
    intro fuel k s l9 l10 l11 hf hr hk1 hM hR hF h11 hkk h9 h10 hc
    cases fuel with
    | zero => omega
    | succ fuel =>
      show uOk (m_X12_reachEnds_195_s c17 c32 _ s l1 l2 l3 l4 l5 l6 l7 l8 l9 l10 l11) P
      unfold m_X12_reachEnds_195_s
      refine ok_ite (fun q => absurd (z_lt.mp q) (by rw [h11, kn4]; omega)) (fun _ => ok_ite (fun q => out k s hM hR hF (by rw [z_le, e6, k0] at q; omega) hc) (fun q1 => ok_ite (fun q => out k s hM hR hF (by rw [z_lt, e7, h11] at q; omega) hc) (fun q2 => ?_)))
      rw [z_le, e6, k0] at q1
      rw [z_lt, e7, h11] at q2
      obtain ⟨m1, m2, m3, m4, m5⟩ := id hM
      have ea : (l4 + l6 - 1).toInt = (192 + (i - 1) : Nat) := by
        rw [z_subv (z_addv e4 e6 (by omega) (by omega)) kn1 (by omega) (by omega)]; omega
      have eb : (l5 + l7 - l11).toInt = (24 * t + (j - k) : Nat) := by
        rw [z_subv (z_addv e5 e7 (by omega) (by omega)) h11 (by omega) (by omega)]; omega
      refine ok_b (m_pair hB hM (i := i - 1) (j := j - k) (by omega) (by omega) ea eb e2) (fun v38 s' hv => ?_)
      obtain ⟨rfl, hv⟩ := hv
      have wp := wpr_b hB (i := i - 1) (j := j - k) (by omega) (by omega)
      have wa := wsb_b hB (i := i - 1) (j := j - (k - 1)) (by omega) (k - 1) (by omega)
      have wa' := wsb_b hB (i := i - 1) (j := j - k) (by omega) k (by omega)
      have wl := wlbs_b hB (j := j - (k - 1)) (k - 1) (by omega)
      have wl' := wlbs_b hB (j := j - k) k (by omega)
      have sk : uwsb d (i - 1) (j - k) k = wpr d (i - 1) (j - k) + uwsb d (i - 1) (j - (k - 1)) (k - 1) := by
        have := wsb_f (d := d) (i := i - 1) (k - 1) (j - k)
        rw [show k - 1 + 1 = k by omega, show j - k + 1 = j - (k - 1) by omega] at this
        exact this
      have lk : wlbs d (j - k) k = wlb d (j - k) + wlbs d (j - (k - 1)) (k - 1) := by
        have := wlbs_f (d := d) (k - 1) (j - k)
        rw [show k - 1 + 1 = k by omega, show j - k + 1 = j - (k - 1) by omega] at this
        exact this
      refine ok_l fun v41 e41 => ?_
      have h41 : v41.toInt = uwsb d (i - 1) (j - k) k := by rw [e41, z_addv h9 hv (by omega) (by omega), sk]; omega
      rw [z_nv ea, z_nv eb]
      have ml := m3 (i - 1) (by omega)
      have mb := m4 (j - k) (by omega)
      have bl := hB.2.2.1 (i - 1) (by omega)
      have bb := hB.2.2.2.1 (j - k) (by omega)
      refine ok_i (by omega) (ok_l fun v44 e44 => ok_l fun v46 e46 => ?_)
      have h44 : v44.toInt = wlbs d (j - k) k := by rw [e44, z_addv h10 mb.2 (by omega) (by omega), lk]; omega
      have h46 : v46.toInt = (25 * (i - 1) + (j - k) : Nat) := by
        rw [e46, z_subv (z_subv e8 e3 (by omega) (by omega)) h11 (by omega) (by omega)]; omega
      rw [z_nv h46]
      refine ok_i (by omega) (ok_i ⟨by decide, by decide⟩ (ok_i (by omega) (ok_l fun v51 e51 => ok_i (by omega) ?_)))
      have h51 : v51.toInt = zabs (wla d (i - 1) - wlbs d (j - k) k) := by rw [e51]; exact z_absv (z_subv ml.2 h44 (by omega) (by omega)) (by omega)
      have zb := zabs_b (x := wla d (i - 1) - wlbs d (j - k) k) (b := 256) (by omega) (by omega)
      have k1 := hB.2.2.2.2.1 1 (by omega)
      have p1 : (s'.1 4 (1 : Int32).toNatClampNeg).toInt = wK d 1 := m5 1 (by omega)
      have mb1 := mul_b k1.1 k1.2 zb.1 zb.2
      have hD := hR (i - 1) (j - k) (by omega) (by omega) (by omega)
      have db := hD.b hB (by omega) (by omega)
      have cb := cB_b hB (i := i - 1) (j := j - k) (k := k) (by omega) (by omega) (by omega)
      have hs : uStp d (i - 1) (j - k) i j (ucB d (i - 1) (j - k) k) := Or.inr (Or.inr (Or.inl ⟨k, by omega, by omega, by omega, by omega, by omega, by omega, rfl⟩))
      have hcost : (s'.1 12 (25 * (i - 1) + (j - k)) + s'.1 4 (1 : Int32).toNatClampNeg * v51 + v41).toInt = Ec s' (i - 1) (j - k) + ucB d (i - 1) (j - k) k := by
        rw [z_addv (z_addv (show (s'.1 12 (25 * (i - 1) + (j - k))).toInt = Ec s' (i - 1) (j - k) from rfl) (z_mulv p1 h51 (by omega) (by omega)) (by omega) (by omega)) h41 (by unfold ucB at *; omega) (by unfold ucB at *; omega)]
        unfold ucB
        omega
      refine ok_b (m_better hB (by omega) (by omega) (by omega) (by omega) hs hD hc e8 hcost rfl) (fun _ s2 h2' => ok_l fun v57 e57 => ?_)
      refine ih fuel (k + 1) s2 v41 v44 v57 (by omega) (by omega) (by omega) (hM.fr h2'.1.M (by decide) (by decide)) (hR.fr hB h2'.1 hj) (hF.tr h2'.1) (by rw [e57, z_add1 (by omega), h11]; rfl) (Or.inr ⟨by omega, by omega⟩) h41 h44 (h2'.2.mono (fun x y z hz => ?_))
      rcases hz with hz | hz | ⟨q, g1, g2, g3, g4, g5⟩
      · exact Or.inl (Or.inl hz)
      · exact Or.inl (Or.inr (Or.inl hz))
      · by_cases hqk : q = k
        · refine Or.inr ⟨by omega, by omega, ?_⟩
          rw [g5, hqk, show x = i - 1 by omega, show y = j - k by omega]
        · exact Or.inl (Or.inr (Or.inr ⟨q, g1, by omega, g3, g4, g5⟩))
theorem m_r137 (hB : WB d) (hk : MRk d t i j l1 l2 l3 l4 l5 l6 l7 l8)
    (kk : ∀ σ', frE i j σ σ' → Dn d σ' i j → ∀ v : Int32, v.toInt = ((j + 1 : Nat) : Int) → uOk (c32 σ' l1 l2 l3 l4 l5 l6 v) P)
    {s : SG} (hM : WMd d 192 (24 * t) s) (hR : RI d s i j) (hF : frE i j σ s) (hc : Cw d s i j (fun x y z => rtA d i j x y z)) : uOk (m_X12_reachEnds_137 c17 c32 s l1 l2 l3 l4 l5 l6 l7 l8) P := by
  obtain ⟨e1, e2, e3, e4, e5, e6, e7, e8, hi, hj, hn12, ht⟩ := id hk
  have h1 := hB.1
  have h2 := hB.2.1
  have kn1 : ((1 : Int32)).toInt = 1 := rfl
  have k0 : ((0 : Int32)).toInt = 0 := rfl
  have go : ∀ s : SG, WMd d 192 (24 * t) s → RI d s i j → frE i j σ s → Cw d s i j (fun x y z => rtA d i j x y z ∨ rtB d i j x y z) → uOk (m_X12_reachEnds_186 c17 c32 s l1 l2 l3 l4 l5 l6 l7 l8) P := fun s hM hR hF hc => by
    unfold m_X12_reachEnds_186
    refine m_r195 hB hk kk 4 FV 1 s 0 0 1 (FV_big (by omega)) (by omega) (by omega) hM hR hF rfl (Or.inl rfl) rfl rfl (hc.mono (fun x y z hs => ?_))
    rcases hs with hs | hs | ⟨q, q1, q2, q3, q4, q5⟩
    · exact Or.inl hs
    · exact Or.inr hs
    · omega
  unfold m_X12_reachEnds_137
  refine ok_ite (fun q => go s hM hR hF (hc.mono (fun x y z hs => ?_))) (fun q => ?_)
  · rw [z_le, e7, k0] at q
    rcases hs with hs | hs
    · exact hs
    · exact absurd hs.2.1 (by omega)
  · rw [z_le, e7, k0] at q
    obtain ⟨m1, m2, m3, m4, m5⟩ := id hM
    have eb : (l5 + l7 - 1).toInt = (24 * t + (j - 1) : Nat) := by
      rw [z_subv (z_addv e5 e7 (by omega) (by omega)) kn1 (by omega) (by omega)]; omega
    have e81 : (l8 - 1).toInt = (25 * i + (j - 1) : Nat) := by rw [z_subv e8 kn1 (by omega) (by omega)]; omega
    rw [z_nv eb, z_nv e81]
    have mb := m4 (j - 1) (by omega)
    have p3 : (s.1 4 (3 : Int32).toNatClampNeg).toInt = wK d 3 := m5 3 (by omega)
    have ab := alB_b hB (j := j - 1) (by omega)
    have hD := hR i (j - 1) (by omega) (by omega) (by omega)
    have db := hD.b hB (by omega) (by omega)
    have hs : uStp d i (j - 1) i j (wK d 3 * wlb d (j - 1)) := Or.inr (Or.inl ⟨by omega, rfl, by omega, rfl⟩)
    have hcost : (s.1 12 (25 * i + (j - 1)) + s.1 4 (3 : Int32).toNatClampNeg * s.1 2 (24 * t + (j - 1))).toInt = Ec s i (j - 1) + wK d 3 * wlb d (j - 1) := z_addv rfl (z_mulv p3 mb.2 (by omega) (by omega)) (by omega) (by omega)
    refine ok_i (by omega) (ok_i ⟨by decide, by decide⟩ (ok_i (by omega) (ok_i (by omega) (ok_b (m_better hB (by omega) (by omega) (by omega) (by omega) hs hD hc e8 hcost rfl) (fun _ s2 h2' => go s2 (hM.fr h2'.1.M (by decide) (by decide)) (hR.fr hB h2'.1 hj) (hF.tr h2'.1) (h2'.2.mono (fun x y z hz => ?_)))))))
    rcases hz with hz | hz
    · exact Or.inl hz
    · obtain ⟨a1, a2, a3, a4⟩ := hz
      exact Or.inr ⟨a1, by omega, by rw [a4, show y = j - 1 by omega]⟩
theorem m_r87 (hB : WB d) (hk : MRk d t i j l1 l2 l3 l4 l5 l6 l7 l8)
    (kk : ∀ σ', frE i j σ σ' → Dn d σ' i j → ∀ v : Int32, v.toInt = ((j + 1 : Nat) : Int) → uOk (c32 σ' l1 l2 l3 l4 l5 l6 v) P)
    {s : SG} {s0 : Int32} (hM : WMd d 192 (24 * t) s) (hR : RI d s i j) (hF : frE i j σ s) (hs0 : (0 < i ∧ Ec s i j = 2147483647 ∧ s0.toInt = -1) ∨ (i = 0 ∧ Ec s i j = 0 ∧ s0.toInt = j)) : uOk (m_X12_reachEnds_87 c17 c32 s l1 l2 l3 l4 l5 l6 l7 l8 s0 l8) P := by
  obtain ⟨e1, e2, e3, e4, e5, e6, e7, e8, hi, hj, hn12, ht⟩ := id hk
  have h1 := hB.1
  have h2 := hB.2.1
  have kn1 : ((1 : Int32)).toInt = 1 := rfl
  have k0 : ((0 : Int32)).toInt = 0 := rfl
  unfold m_X12_reachEnds_87
  rw [z_nv e8]
  refine ok_i (by omega) (ok_l fun s1 es1 => ?_)
  have hF1 : frE i j s s1 := by rw [es1]; exact frE.rf.sI ⟨Or.inr rfl, rfl⟩
  have hc1 : Ec s1 i j = Ec s i j := by unfold Ec; rw [es1, g_sI, if_neg (by omega)]
  have hf1 : Ef s1 i j = s0.toInt := by unfold Ef; rw [es1, g_sI_s]
  have hM1 := hM.fr hF1.M (by decide) (by decide)
  have hR1 := hR.fr hB hF1 hj
  have hC : Cw d s1 i j (fun _ _ _ => False) := by
    rcases hs0 with ⟨a1, a2, a3⟩ | ⟨a1, a2, a3⟩
    · exact ⟨Or.inl ⟨by omega, by omega⟩, fun _ _ _ _ h => h.elim, fun z => by omega⟩
    · refine ⟨Or.inr ⟨by omega, by omega, by omega, j, 24 - j, 0, ⟨hj, rfl⟩, ?_, ?_⟩, fun _ _ _ _ h => h.elim, fun _ => ?_⟩
      · rw [a1]; exact Pth.rf
      · unfold uEn; omega
      · unfold uEn; omega
  refine ok_ite (fun q => m_r137 hB hk kk hM1 hR1 (hF.tr hF1) (hC.mono (fun x y z hs => ?_))) (fun q => ?_)
  · rw [z_le, e6, k0] at q
    exact absurd hs.1 (by omega)
  · rw [z_le, e6, k0] at q
    obtain ⟨m1, m2, m3, m4, m5⟩ := id hM1
    have ea : (l4 + l6 - 1).toInt = (192 + (i - 1) : Nat) := by
      rw [z_subv (z_addv e4 e6 (by omega) (by omega)) kn1 (by omega) (by omega)]; omega
    have e83 : (l8 - l3).toInt = (25 * (i - 1) + j : Nat) := by rw [z_subv e8 e3 (by omega) (by omega)]; omega
    rw [z_nv ea, z_nv e83]
    have ml := m3 (i - 1) (by omega)
    have p2 : (s1.1 4 (2 : Int32).toNatClampNeg).toInt = wK d 2 := m5 2 (by omega)
    have ab := alA_b hB (i := i - 1) (by omega)
    have hD := hR1 (i - 1) j (by omega) (by omega) (by omega)
    have db := hD.b hB (by omega) (by omega)
    have hs : uStp d (i - 1) j i j (wK d 2 * wla d (i - 1)) := Or.inl ⟨by omega, by omega, rfl, rfl⟩
    have hcost : (s1.1 12 (25 * (i - 1) + j) + s1.1 4 (2 : Int32).toNatClampNeg * s1.1 2 (192 + (i - 1))).toInt = Ec s1 (i - 1) j + wK d 2 * wla d (i - 1) := z_addv rfl (z_mulv p2 ml.2 (by omega) (by omega)) (by omega) (by omega)
    refine ok_i (by omega) (ok_i ⟨by decide, by decide⟩ (ok_i (by omega) (ok_i (by omega) (ok_b (m_better hB (by omega) (by omega) (by omega) (by omega) hs hD hC e8 hcost rfl) (fun _ s2 h2' => m_r137 hB hk kk (hM1.fr h2'.1.M (by decide) (by decide)) (hR1.fr hB h2'.1 hj) ((hF.tr hF1).tr h2'.1) (h2'.2.mono (fun x y z hz => ?_)))))))
    obtain ⟨a1, a2, a3, a4⟩ := hz
    exact Or.inr ⟨by omega, a2, by rw [a4, show x = i - 1 by omega]⟩
end MR
theorem frE.R {i j : Nat} {σ σ' : SG} (h : frE i j σ σ') : fr1 12 14 σ σ' := ⟨fun k x z => h.1 k x (by omega), h.2⟩
theorem fr1.M9 {σ σ' : SG} (h : fr1 12 14 σ σ') : frM [9] σ σ' := ⟨fun k x z => h.1 k x (by
  by_cases a : 12 ≤ k ∧ k < 14
  · have hc : k = 12 ∨ k = 13 := by omega
    rcases hc with rfl | rfl
    · exact absurd (by show (9 : Nat) ∈ _; decide) z
    · exact absurd (by show (9 : Nat) ∈ _; decide) z
  · omega), fun _ => by rw [h.2], by rw [h.2]⟩
theorem m_r32 {d : WD} {t : Nat} {P : Unit → SG → Prop} {c17 : SG → Int32 → Int32 → Int32 → Int32 → Int32 → Int32 → Option (Unit × SG)} {l1 l2 l3 l4 l5 l6 : Int32} {i : Nat} (hB : WB d) (e1 : l1.toInt = t) (e2 : l2.toInt = uws d) (e3 : l3.toInt = 25) (e4 : l4.toInt = 192) (e5 : l5.toInt = (24 * t : Nat)) (e6 : l6.toInt = i) (hi : i ≤ wn d) (hn12 : wn d ≤ 12) (ht : t < 8) :
    ∀ (r fuel j : Nat) (σ : SG) (l7 : Int32), r < fuel → j + r = wm d + 1 → WMd d 192 (24 * t) σ → (σ.1 3 t).toInt = wm d → RI d σ i j → l7.toInt = j → (∀ σ', fr1 12 14 σ σ' → RI d σ' (i + 1) 0 → ∀ v : Int32, v.toInt = ((i + 1 : Nat) : Int) → uOk (c17 σ' l1 l2 l3 l4 l5 v) P) → uOk (m_X12_reachEnds_32 c17 fuel σ l1 l2 l3 l4 l5 l6 l7) P := by
  have h1 := hB.1
  have h2 := hB.2.1
  have k0 : ((0 : Int32)).toInt = 0 := rfl
  have km : ((-1 : Int32)).toInt = -1 := rfl
  intro r
  induction r with
  | zero =>
    intro fuel j σ l7 hf hr hM hm hR e7 kk
    cases fuel with
    | zero => omega
    | succ fuel =>
      show uOk (m_X12_reachEnds_32_s c17 _ σ l1 l2 l3 l4 l5 l6 l7) P
      unfold m_X12_reachEnds_32_s
      rw [z_nv e1]
      exact ok_i (by omega) (ok_ite (fun _ => ok_l fun v ev => kk σ fr1.rf (fun x y hx hy h => hR x y hx hy (by omega)) v (by rw [ev, z_add1 (by omega), e6]; rfl)) (fun q => absurd (z_lt.mpr (by rw [hm, e7]; omega)) q))
  | succ r ih =>
    intro fuel j σ l7 hf hr hM hm hR e7 kk
    cases fuel with
    | zero => omega
    | succ fuel =>
      show uOk (m_X12_reachEnds_32_s c17 _ σ l1 l2 l3 l4 l5 l6 l7) P
      unfold m_X12_reachEnds_32_s
      rw [z_nv e1]
      refine ok_i (by omega) (ok_ite (fun q => absurd (z_lt.mp q) (by rw [hm, e7]; omega)) (fun _ => ok_l fun v9 e9 => ?_))
      have e8 : v9.toInt = (25 * i + j : Nat) := by rw [e9, z_addv (z_mulv e3 e6 (by omega) (by omega)) e7 (by omega) (by omega)]; omega
      have hk : MRk d t i j l1 l2 l3 l4 l5 l6 l7 v9 := ⟨e1, e2, e3, e4, e5, e6, e7, e8, hi, by omega, hn12, ht⟩
      have next : ∀ σ', frE i j σ σ' → Dn d σ' i j → ∀ v : Int32, v.toInt = ((j + 1 : Nat) : Int) → uOk (m_X12_reachEnds_32 c17 fuel σ' l1 l2 l3 l4 l5 l6 v) P := fun σ' hF hD v hv => by
        refine ih fuel (j + 1) σ' v (by omega) (by omega) (hM.fr hF.M (by decide) (by decide)) (by rw [hF.1 3 t (by omega)]; exact hm) (fun x y hx hy h => ?_) hv (fun σ2 hF2 h3 => kk σ2 (hF.R.tr hF2) h3)
        by_cases e : x = i ∧ y = j
        · rw [e.1, e.2]; exact hD
        · exact (hR.fr hB hF (by omega)) x y hx hy (by omega)
      have m69 : ∀ s0 : Int32, ((0 < i ∧ s0.toInt = 2147483647) ∨ (i = 0 ∧ s0.toInt = 0)) → uOk (m_X12_reachEnds_69 c17 (m_X12_reachEnds_32 c17 fuel) σ l1 l2 l3 l4 l5 l6 l7 v9 s0 v9) P := fun s0 hs0 => by
        unfold m_X12_reachEnds_69
        rw [z_nv e8]
        refine ok_i (by omega) (ok_l fun s1 es1 => ?_)
        have hF1 : frE i j σ s1 := by rw [es1]; exact frE.rf.sI ⟨Or.inl rfl, rfl⟩
        have hc1 : Ec s1 i j = s0.toInt := by unfold Ec; rw [es1, g_sI_s]
        have hM1 := hM.fr hF1.M (by decide) (by decide)
        have hR1 := hR.fr hB hF1 (by omega)
        refine ok_ite (fun q => m_r87 hB hk next hM1 hR1 hF1 (Or.inl ?_)) (fun q => m_r87 hB hk next hM1 hR1 hF1 (Or.inr ?_))
        · have : i ≠ 0 := fun z => q (by rw [z_eq, e6, k0, z]; rfl)
          refine ⟨by omega, ?_, km⟩
          rw [hc1]
          omega
        · have : l6 = 0 := Classical.not_not.mp q
          rw [z_eq, e6, k0] at this
          refine ⟨by omega, ?_, e7⟩
          rw [hc1]
          omega
      refine ok_ite (fun q => m69 _ (Or.inl ⟨?_, rfl⟩)) (fun q => m69 _ (Or.inr ⟨?_, rfl⟩))
      · have : i ≠ 0 := fun z => q (by rw [z_eq, e6, k0, z]; rfl)
        omega
      · have : l6 = 0 := Classical.not_not.mp q
        rw [z_eq, e6, k0] at this
        omega
theorem m_r17 {d : WD} {t : Nat} {l1 l2 l3 l4 l5 : Int32} (hB : WB d) (e1 : l1.toInt = t) (e2 : l2.toInt = uws d) (e3 : l3.toInt = 25) (e4 : l4.toInt = 192) (e5 : l5.toInt = (24 * t : Nat)) (hn12 : wn d ≤ 12) (ht : t < 8) :
    ∀ (r fuel i : Nat) (σ : SG) (l6 : Int32), r < fuel → i + r = wn d + 1 → WMd d 192 (24 * t) σ → (σ.1 3 t).toInt = wm d → (σ.1 3 8).toInt = wn d → RI d σ i 0 → l6.toInt = i → uOk (m_X12_reachEnds_17 fuel σ l1 l2 l3 l4 l5 l6) (fun _ σ' => fr1 12 14 σ σ' ∧ ∀ y, y ≤ wm d → Dn d σ' (wn d) y) := by
  have h1 := hB.1
  have h2 := hB.2.1
  have n8 : (8 : Int32).toNatClampNeg = 8 := rfl
  intro r
  induction r with
  | zero =>
    intro fuel i σ l6 hf hr hM hm hn hR e6
    cases fuel with
    | zero => omega
    | succ fuel =>
      show uOk (m_X12_reachEnds_17_s _ σ l1 l2 l3 l4 l5 l6) _
      unfold m_X12_reachEnds_17_s
      rw [n8]
      exact ok_i ⟨by decide, by decide⟩ (ok_ite (fun _ => ok_r ⟨fr1.rf, fun y hy => hR (wn d) y (Nat.le_refl _) hy (by omega)⟩) (fun q => absurd (z_lt.mpr (by rw [hn, e6]; omega)) q))
  | succ r ih =>
    intro fuel i σ l6 hf hr hM hm hn hR e6
    cases fuel with
    | zero => omega
    | succ fuel =>
      show uOk (m_X12_reachEnds_17_s _ σ l1 l2 l3 l4 l5 l6) _
      unfold m_X12_reachEnds_17_s
      rw [n8]
      refine ok_i ⟨by decide, by decide⟩ (ok_ite (fun q => absurd (z_lt.mp q) (by rw [hn, e6]; omega)) (fun _ => ?_))
      refine m_r32 hB e1 e2 e3 e4 e5 e6 (by omega) hn12 ht (wm d + 1) FV 0 σ 0 (FV_big (by omega)) (by omega) hM hm hR rfl (fun σ' hF hR' v hv => ?_)
      exact (ih fuel (i + 1) σ' v (by omega) (by omega) (hM.fr hF.M9 (by decide) (by decide)) (by rw [hF.1 3 t (by omega)]; exact hm) (by rw [hF.1 3 8 (by omega)]; exact hn) hR' hv).mono (fun _ s h => ⟨hF.tr h.1, h.2⟩)
theorem m_reach {n : Nat} {c : Nat → Nat} {P L : Nat → Nat → Int} {K : Nat → Int} {t : Nat} {σ : SG} {p0 p1 : Int32} (hB : NB n c P L) (hK : KB K) (hM : uNM n c P L σ) (hKM : uKM K σ) (ht : t < 8) (h0 : p0.toInt = t) (s1 : -24 ≤ p1.toInt) (s2 : p1.toInt ≤ 24) : uOk (m_X12_reachEnds σ p0 p1) (fun _ σ' => fr1 12 14 σ σ' ∧ ∀ y, y ≤ c t → Dn (wd c P L K 8 t p1.toInt) σ' (c 8) y) := by
  have kn : ((24 : Int32)).toInt = 24 := rfl
  have hW := wd_B (x := 8) (y := t) (s := p1.toInt) hB hK (by omega) (by omega) s1 s2
  have h12 : c 8 ≤ 12 := hB.2.1 8 (by omega)
  unfold m_X12_reachEnds m_X12_reachEnds_0
  refine ok_l fun v1 e1 => ?_
  have e5 : v1.toInt = (24 * t : Nat) := by rw [e1, z_mulv kn h0 (by omega) (by omega)]; omega
  exact m_r17 (d := wd c P L K 8 t p1.toInt) hW h0 rfl rfl rfl e5 h12 ht (c 8 + 1) FV 0 σ 0 (FV_big (by omega)) (by show 0 + (c 8 + 1) = c 8 + 1; omega) (wd_M hM hKM (by omega) (by omega)) (hM.2.1 t (by omega)) (hM.2.1 8 (by omega)) (fun x y _ _ h => by omega) rfl
