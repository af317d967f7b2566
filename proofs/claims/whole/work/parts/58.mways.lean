/-! ===== the model's ways: the table holds the least costs to the end ===== -/
theorem z_addv {a b : Int32} {x y : Int} (ha : a.toInt = x) (hb : b.toInt = y) (h : -2147483648 ≤ x + y) (h2 : x + y < 2147483648) : (a + b).toInt = x + y := by rw [← ha, ← hb] at *; exact z_add h h2
theorem z_subv {a b : Int32} {x y : Int} (ha : a.toInt = x) (hb : b.toInt = y) (h : -2147483648 ≤ x - y) (h2 : x - y < 2147483648) : (a - b).toInt = x - y := by rw [← ha, ← hb] at *; exact z_sub h h2
theorem z_mulv {a b : Int32} {x y : Int} (ha : a.toInt = x) (hb : b.toInt = y) (h : -2147483648 ≤ x * y) (h2 : x * y < 2147483648) : (a * b).toInt = x * y := by rw [← ha, ← hb] at *; exact z_mul h h2
theorem z_absv {a : Int32} {x : Int} (ha : a.toInt = x) (h : -2147483648 < x) : (if 0 ≤ a then a else 0 - a).toInt = zabs x := by
  have k0 : ((0 : Int32)).toInt = 0 := rfl
  have := z_hi a
  unfold zabs
  by_cases q : 0 ≤ a
  · rw [if_pos q]
    rw [z_le, k0, ha] at q
    rw [if_pos q, ha]
  · rw [if_neg q]
    rw [z_le, k0, ha] at q
    rw [if_neg q, z_subv k0 ha (by omega) (by omega)]
    omega
theorem z_minv {a b : Int32} {x y : Int} (ha : a.toInt = x) (hb : b.toInt = y) : (if a < b then a else b).toInt = if x < y then x else y := by
  by_cases q : a < b
  · rw [if_pos q]; rw [z_lt, ha, hb] at q; rw [if_pos q, ha]
  · rw [if_neg q]; rw [z_lt, ha, hb] at q; rw [if_neg q, hb]
theorem z_nv {a : Int32} {n : Nat} (h : a.toInt = n) : a.toNatClampNeg = n := by rw [z_nat, h]; omega
def WMd (d : WD) (f0 s0 : Nat) (σ : SG) : Prop := f0 + 24 ≤ 216 ∧ s0 + 24 ≤ 216 ∧ (∀ i, i < wn d → (σ.1 1 (f0 + i)).toInt = wpa d i ∧ (σ.1 2 (f0 + i)).toInt = wla d i) ∧ (∀ j, j < wm d → (σ.1 1 (s0 + j)).toInt = wpb d j ∧ (σ.1 2 (s0 + j)).toInt = wlb d j) ∧ ∀ k, k < 8 → (σ.1 4 k).toInt = wK d k
theorem WMd.fr {d : WD} {f0 s0 : Nat} {G : List Nat} {σ σ' : SG} (h : WMd d f0 s0 σ) (f : frM G σ σ') (q : 0 ∉ G) (q1 : 1 ∉ G) : WMd d f0 s0 σ' := by
  obtain ⟨h1, h2, h3, h4, h5⟩ := h
  exact ⟨h1, h2, fun i hi => by rw [f.1 1 _ q, f.1 2 _ q]; exact h3 i hi, fun j hj => by rw [f.1 1 _ q, f.1 2 _ q]; exact h4 j hj, fun k hk => by rw [f.1 4 k q1]; exact h5 k hk⟩
theorem m_pair {d : WD} {f0 s0 : Nat} {σ : SG} (hB : WB d) (hM : WMd d f0 s0 σ) {i j : Nat} (hi : i < wn d) (hj : j < wm d) {p0 p1 p2 : Int32} (h0 : p0.toInt = (f0 + i : Nat)) (h1 : p1.toInt = (s0 + j : Nat)) (h2 : p2.toInt = uws d) : uOk (m_X12_pair σ p0 p1 p2) (fun v σ' => σ' = σ ∧ v.toInt = wpr d i j) := by
  obtain ⟨m1, m2, m3, m4, m5⟩ := hM
  obtain ⟨b1, b2, b3, b4, b5, b6, b7⟩ := hB
  have k0 : ((0 : Int32)).toInt = 0 := rfl
  have a1 := (m3 i hi).1
  have a2 := (m4 j hj).1
  have c1 := b3 i hi
  have c2 := b4 j hj
  have p4 := m5 4 (by omega)
  have p5 := m5 0 (by omega)
  have q5 := b5 0 (by omega)
  unfold m_X12_pair m_X12_pair_0
  rw [z_nv h0, z_nv h1]
  refine ok_i (by omega) (ok_l fun v2 e2 => ok_i (by omega) (ok_l fun v5 e5 => ?_))
  rw [← e2] at a1
  rw [← e5] at a2
  have no : (wpa d i < 0 ∨ wpb d j < 0) → ¬ (wpa d i < 0 ∧ wpb d j < 0) → uOk (m_X12_pair_40 σ) (fun v σ' => σ' = σ ∧ v.toInt = wpr d i j) := fun h h' => by
    unfold m_X12_pair_40 wpr
    exact ok_i ⟨by decide, by decide⟩ (ok_r ⟨rfl, by rw [if_neg h', if_pos h]; exact p4⟩)
  have yes : ¬ (wpa d i < 0 ∧ wpb d j < 0) → uOk (m_X12_pair_30 σ p2 v2 v5) (fun v σ' => σ' = σ ∧ v.toInt = wpr d i j) := fun h => by
    unfold m_X12_pair_30
    refine ok_ite (fun q => no (Or.inl (by rw [z_lt, a1, k0] at q; exact q)) h) (fun q => ok_ite (fun q2 => ok_i ⟨by decide, by decide⟩ (ok_l fun v12 e12 => ok_r ⟨rfl, ?_⟩)) (fun q2 => no (Or.inr (by rw [z_le, a2, k0] at q2; omega)) h))
    rw [z_lt, a1, k0] at q
    rw [z_le, a2, k0] at q2
    have e1 : (v2 + p2 - v5).toInt = wpa d i + uws d - wpb d j := z_subv (z_addv a1 h2 (by omega) (by omega)) a2 (by omega) (by omega)
    have e3 := z_absv e1 (by omega)
    rw [← e12] at e3
    have b := zabs_b (x := wpa d i + uws d - wpb d j) (b := 151) (by omega) (by omega)
    have b' := mul_b q5.1 q5.2 b.1 b.2
    unfold wpr
    rw [if_neg h, if_neg (by omega)]
    exact z_mulv p5 e3 (by omega) (by omega)
  refine ok_ite (fun q => yes ?_) (fun q => ok_ite (fun q2 => yes ?_) (fun q2 => ok_r ⟨rfl, ?_⟩))
  · rw [z_le, a1, k0] at q; omega
  · rw [z_le, a2, k0] at q2; omega
  · rw [z_le, a1, k0] at q
    rw [z_le, a2, k0] at q2
    unfold wpr
    rw [if_pos (by omega)]
    exact k0
def Bs (d : WD) (i j : Nat) (b : Int) (C : Nat → Nat → Int → Prop) : Prop := (b = 2147483647 ∨ Pth d i j (wn d) (wm d) b ∧ b < 2147483647) ∧ (∀ i' j' c e, C i' j' c → Pth d i' j' (wn d) (wm d) e → b ≤ c + e) ∧ (i = wn d → j = wm d → b ≤ 0)
theorem Bs.upd {d : WD} {i j i' j' : Nat} {b c t : Int} {C : Nat → Nat → Int → Prop} (h : Bs d i j b C) (q : uStp d i j i' j' c) (m : IsMin (Pth d i' j' (wn d) (wm d)) t) : Bs d i j (if c + t < b then c + t else b) (fun x y z => C x y z ∨ (x = i' ∧ y = j' ∧ z = c)) := by
  obtain ⟨h1, h2, h3⟩ := h
  refine ⟨?_, fun x y z e hC hP => ?_, fun ha hb => ?_⟩
  · split
    · refine Or.inr ⟨Pth.cons q m.1, ?_⟩
      rcases h1 with h1 | h1 <;> omega
    · exact h1
  · rcases hC with hC | ⟨rfl, rfl, rfl⟩
    · have := h2 x y z e hC hP
      split <;> omega
    · have := m.2 e hP
      split <;> omega
  · have := h3 ha hb
    split <;> omega
theorem Bs.mono {d : WD} {i j : Nat} {b : Int} {C C' : Nat → Nat → Int → Prop} (h : Bs d i j b C) (q : ∀ x y z, C' x y z → C x y z) : Bs d i j b C' := ⟨h.1, fun x y z e hC hP => h.2.1 x y z e (q x y z hC) hP, h.2.2⟩
theorem Bs.fin {d : WD} (hB : WB d) {i j : Nat} {b : Int} {C : Nat → Nat → Int → Prop} (hi : i ≤ wn d) (hj : j ≤ wm d) (h : Bs d i j b C) (q : ∀ x y z, uStp d i j x y z → C x y z) : IsMin (Pth d i j (wn d) (wm d)) b := by
  obtain ⟨h1, h2, h3⟩ := h
  have hl : ∀ c, Pth d i j (wn d) (wm d) c → b ≤ c := fun c hc => by
    rcases hc.head with ⟨e1, e2, e3⟩ | ⟨x, y, e, c1, g1, g2, g3⟩
    · rw [e3]; exact h3 e1.symm e2.symm
    · rw [g3]; exact h2 x y e c1 (q x y e g1) g2
  obtain ⟨c, hc1, hc2⟩ := alone hB hi hj
  have := hl c hc1
  have := hB.1
  have := hB.2.1
  rcases h1 with h1 | h1
  · omega
  · exact ⟨h1.1, hl⟩
def Tm (σ : SG) (i j : Nat) : Int := (σ.1 11 (25 * i + j)).toInt
/-- all cells behind (i, j), in the order from the last one, are done -/
def TI (d : WD) (σ : SG) (i j : Nat) : Prop := ∀ x y, x ≤ wn d → y ≤ wm d → (i < x ∨ (i = x ∧ j < y)) → IsMin (Pth d x y (wn d) (wm d)) (Tm σ x y)
theorem TI.b {d : WD} (hB : WB d) {x y : Nat} {t : Int} (hx : x ≤ wn d) (hy : y ≤ wm d) (h : IsMin (Pth d x y (wn d) (wm d)) t) : 0 ≤ t ∧ t ≤ 3072000 := by
  obtain ⟨c, h1, h2⟩ := alone hB hx hy
  have := h.2 c h1
  have := (h.1.b hB).1
  have := hB.1
  have := hB.2.1
  omega
def ustA (d : WD) (i j x y : Nat) (z : Int) : Prop := i < wn d ∧ x = i + 1 ∧ y = j ∧ z = wK d 2 * wla d i
def ustB (d : WD) (i j x y : Nat) (z : Int) : Prop := j < wm d ∧ x = i ∧ y = j + 1 ∧ z = wK d 3 * wlb d j
def stSB (d : WD) (k i j x y : Nat) (z : Int) : Prop := ∃ q, 1 ≤ q ∧ q < k ∧ i < wn d ∧ j + q ≤ wm d ∧ x = i + 1 ∧ y = j + q ∧ z = ucB d i j q
def stSA (d : WD) (k i j x y : Nat) (z : Int) : Prop := ∃ q, 1 ≤ q ∧ q < k ∧ j < wm d ∧ i + q ≤ wn d ∧ x = i + q ∧ y = j + 1 ∧ z = cA d i j q
section MW
variable {d : WD} {f0 s0 : Nat} {P : Unit → SG → Prop} {c7 : SG → Int32 → Int32 → Int32 → Int32 → Int32 → Int32 → Int32 → Option (Unit × SG)} {c16 : SG → Int32 → Int32 → Int32 → Int32 → Int32 → Int32 → Int32 → Int32 → Option (Unit × SG)} {σ : SG} {l1 l2 l3 l4 l5 l6 l7 l8 : Int32} {i j : Nat}
def MWk (d : WD) (f0 s0 i j : Nat) (l1 l2 l3 l4 l5 l6 l7 l8 : Int32) : Prop := l1.toInt = f0 ∧ l2.toInt = wn d ∧ l3.toInt = s0 ∧ l4.toInt = wm d ∧ l5.toInt = uws d ∧ l6.toInt = 25 ∧ l7.toInt = i ∧ l8.toInt = j ∧ i ≤ wn d ∧ j ≤ wm d
theorem m_w395 (hB : WB d) (hk : MWk d f0 s0 i j l1 l2 l3 l4 l5 l6 l7 l8) (hT : TI d σ i j) {l9 : Int32} (h9 : IsMin (Pth d i j (wn d) (wm d)) l9.toInt)
    (kk : ∀ σ', frM [9] σ σ' → (∀ x y, x ≤ wn d → y ≤ wm d → (i < x ∨ (i = x ∧ j ≤ y)) → IsMin (Pth d x y (wn d) (wm d)) (Tm σ' x y)) → ∀ v, v.toInt = (j : Int) - 1 → uOk (c16 σ' l1 l2 l3 l4 l5 l6 l7 v) P) : uOk (m_X12_ways_395 c7 c16 σ l1 l2 l3 l4 l5 l6 l7 l8 l9) P := by
  obtain ⟨e1, e2, e3, e4, e5, e6, e7, e8, hi, hj⟩ := hk
  have h1 := hB.1
  have h2 := hB.2.1
  have ex : (l6 * l7 + l8).toInt = (25 * i + j : Nat) := by
    rw [z_addv (z_mulv e6 e7 (by omega) (by omega)) e8 (by omega) (by omega)]; omega
  unfold m_X12_ways_395
  rw [z_nv ex]
  refine ok_i (by omega) (ok_l fun s es => ok_l fun v ev => ?_)
  refine kk s (by rw [es]; exact frM.rf.sI (by show (9 : Nat) ∈ _; decide)) (fun x y hx hy hxy => ?_) v (by rw [ev, z_addm1 (by omega), e8])
  unfold Tm
  rw [es, g_sI]
  by_cases he : x = i ∧ y = j
  · rw [if_pos (by omega), he.1, he.2]; exact h9
  · rw [if_neg (by omega)]; exact hT x y hx hy (by omega)
theorem m_w273 (hB : WB d) (hM : WMd d f0 s0 σ) (hk : MWk d f0 s0 i j l1 l2 l3 l4 l5 l6 l7 l8) (hT : TI d σ i j)
    (kk : ∀ σ', frM [9] σ σ' → (∀ x y, x ≤ wn d → y ≤ wm d → (i < x ∨ (i = x ∧ j ≤ y)) → IsMin (Pth d x y (wn d) (wm d)) (Tm σ' x y)) → ∀ v, v.toInt = (j : Int) - 1 → uOk (c16 σ' l1 l2 l3 l4 l5 l6 l7 v) P) :
    ∀ (r fuel k : Nat) (l9 l10 l11 l12 : Int32), r < fuel → k + r = 5 → 1 ≤ k → l12.toInt = k → (k = 1 ∨ (j < wm d ∧ i + k - 1 ≤ wn d)) → l10.toInt = wsa d i j (k - 1) → l11.toInt = wlas d i (k - 1) → Bs d i j l9.toInt (fun x y z => ustA d i j x y z ∨ ustB d i j x y z ∨ stSB d 5 i j x y z ∨ stSA d k i j x y z) → uOk (m_X12_ways_273 c7 c16 fuel σ l1 l2 l3 l4 l5 l6 l7 l8 l9 l10 l11 l12) P := by
  obtain ⟨e1, e2, e3, e4, e5, e6, e7, e8, hi, hj⟩ := id hk
  obtain ⟨m1, m2, m3, m4, m5⟩ := id hM
  have h1 := hB.1
  have h2 := hB.2.1
  have kn1 : ((1 : Int32)).toInt = 1 := rfl
  have kn4 : ((4 : Int32)).toInt = 4 := rfl
  have out : ∀ (k : Nat) (l9 : Int32), (4 < k ∨ wm d ≤ j ∨ wn d < i + k) → Bs d i j l9.toInt (fun x y z => ustA d i j x y z ∨ ustB d i j x y z ∨ stSB d 5 i j x y z ∨ stSA d k i j x y z) → uOk (m_X12_ways_395 c7 c16 σ l1 l2 l3 l4 l5 l6 l7 l8 l9) P := fun k l9 hq hb => by
    refine m_w395 hB hk hT (hb.fin hB hi hj (fun x y z hs => ?_)) kk
    rcases hs with hs | hs | ⟨q, q1, q2, q3, q4, q5, q6, q7⟩ | ⟨q, q1, q2, q3, q4, q5, q6, q7⟩
    · exact Or.inl hs
    · exact Or.inr (Or.inl hs)
    · exact Or.inr (Or.inr (Or.inl ⟨q, q1, by omega, q3, q4, q5, q6, q7⟩))
    · exact Or.inr (Or.inr (Or.inr ⟨q, q1, by omega, q3, q4, q5, q6, q7⟩))
  intro r
  induction r with
  | zero =>
    intro fuel k l9 l10 l11 l12 hf hr hk1 h12 hkk h10 h11 hb
    cases fuel with
    | zero => omega
    | succ fuel =>
      show uOk (m_X12_ways_273_s c7 c16 _ σ l1 l2 l3 l4 l5 l6 l7 l8 l9 l10 l11 l12) P
      unfold m_X12_ways_273_s
      exact ok_ite (fun _ => out k l9 (by omega) hb) (fun q => absurd (z_lt.mpr (by rw [h12, kn4]; omega)) q)
  | succ r ih =>
    intro fuel k l9 l10 l11 l12 hf hr hk1 h12 hkk h10 h11 hb
    cases fuel with
    | zero => omega
    | succ fuel =>
      show uOk (m_X12_ways_273_s c7 c16 _ σ l1 l2 l3 l4 l5 l6 l7 l8 l9 l10 l11 l12) P
      unfold m_X12_ways_273_s
      have e712 : (l7 + l12).toInt = (i + k : Nat) := by rw [z_addv e7 h12 (by omega) (by omega)]; omega
      refine ok_ite (fun q => absurd (z_lt.mp q) (by rw [h12, kn4]; omega)) (fun _ => ok_ite (fun q => out k l9 (by rw [z_le, e4, e8] at q; omega) hb) (fun q1 => ok_ite (fun q => out k l9 (by rw [z_lt, e2, e712] at q; omega) hb) (fun q2 => ?_)))
      rw [z_le, e4, e8] at q1
      rw [z_lt, e2, e712] at q2
      have ea : (l1 + l7 + l12 - 1).toInt = (f0 + (i + k - 1) : Nat) := by
        rw [z_subv (z_addv (z_addv e1 e7 (by omega) (by omega)) h12 (by omega) (by omega)) kn1 (by omega) (by omega)]; omega
      have eb : (l3 + l8).toInt = (s0 + j : Nat) := by rw [z_addv e3 e8 (by omega) (by omega)]; omega
      refine ok_b (m_pair hB hM (i := i + k - 1) (j := j) (by omega) (by omega) ea eb e5) (fun v42 s hv => ?_)
      obtain ⟨rfl, hv⟩ := hv
      have wp := wpr_b hB (i := i + k - 1) (j := j) (by omega) (by omega)
      have wa := wsa_b hB (i := i) (j := j) (by omega) (k - 1) (by omega)
      have wa' := wsa_b hB (i := i) (j := j) (by omega) k (by omega)
      have wl := wlas_b hB (i := i) (k - 1) (by omega)
      have wl' := wlas_b hB (i := i) k (by omega)
      have sk : wsa d i j k = wsa d i j (k - 1) + wpr d (i + k - 1) j := by
        have : wsa d i j (k - 1 + 1) = wsa d i j (k - 1) + wpr d (i + (k - 1)) j := rfl
        rw [show k - 1 + 1 = k by omega, show i + (k - 1) = i + k - 1 by omega] at this
        exact this
      have lk : wlas d i k = wlas d i (k - 1) + wla d (i + k - 1) := by
        have : wlas d i (k - 1 + 1) = wlas d i (k - 1) + wla d (i + (k - 1)) := rfl
        rw [show k - 1 + 1 = k by omega, show i + (k - 1) = i + k - 1 by omega] at this
        exact this
      refine ok_l fun v45 e45 => ?_
      have h45 : v45.toInt = wsa d i j k := by rw [e45, z_addv h10 hv (by omega) (by omega), sk]
      rw [z_nv ea, z_nv eb]
      refine ok_i (by omega) (ok_l fun v48 e48 => ?_)
      have ml := m3 (i + k - 1) (by omega)
      have mb := m4 j (by omega)
      have bl := hB.2.2.1 (i + k - 1) (by omega)
      have bb := hB.2.2.2.1 j (by omega)
      have h48 : v48.toInt = wlas d i k := by rw [e48, z_addv h11 ml.2 (by omega) (by omega), lk]
      refine ok_i ⟨by decide, by decide⟩ (ok_i (by omega) (ok_l fun v52 e52 => ?_))
      have h52 : v52.toInt = zabs (wlas d i k - wlb d j) := by rw [e52]; exact z_absv (z_subv h48 mb.2 (by omega) (by omega)) (by omega)
      have zb := zabs_b (x := wlas d i k - wlb d j) (b := 256) (by omega) (by omega)
      have k1 := hB.2.2.2.2.1 1 (by omega)
      have p1 := m5 1 (by omega)
      have mb1 := mul_b k1.1 k1.2 zb.1 zb.2
      have ei : (l6 * (l7 + l12) + l8 + 1).toInt = (25 * (i + k) + (j + 1) : Nat) := by
        rw [z_addv (z_addv (z_mulv e6 e712 (by omega) (by omega)) e8 (by omega) (by omega)) kn1 (by omega) (by omega)]; omega
      rw [z_nv ei]
      refine ok_i (by omega) (ok_l fun v55 e55 => ok_l fun v57 e57 => ?_)
      have tm := hT (i + k) (j + 1) (by omega) (by omega) (by omega)
      have tb := TI.b hB (by omega) (by omega) tm
      have cb := cA_b hB (i := i) (j := j) (k := k) (by omega) (by omega) (by omega)
      have hc : (s.1 4 (1 : Int32).toNatClampNeg * v52 + v45 + s.1 11 (25 * (i + k) + (j + 1))).toInt = cA d i j k + Tm s (i + k) (j + 1) := z_addv (z_addv (z_mulv p1 h52 (by omega) (by omega)) h45 (by omega) (by omega)) rfl (by unfold cA Tm at *; omega) (by unfold cA Tm at *; omega)
      have h55 : v55.toInt = if cA d i j k + Tm s (i + k) (j + 1) < l9.toInt then cA d i j k + Tm s (i + k) (j + 1) else l9.toInt := by rw [e55]; exact z_minv hc rfl
      refine ih fuel (k + 1) v55 v45 v48 v57 (by omega) (by omega) (by omega) (by rw [e57, z_add1 (by omega), h12]; rfl) (Or.inr ⟨by omega, by omega⟩) h45 h48 ?_
      rw [h55]
      refine (hb.upd (Or.inr (Or.inr (Or.inr ⟨k, by omega, by omega, by omega, by omega, rfl, rfl, rfl⟩))) tm).mono (fun x y z hz => ?_)
      rcases hz with hz | hz | hz | ⟨q, g1, g2, g3, g4, g5, g6, g7⟩
      · exact Or.inl (Or.inl hz)
      · exact Or.inl (Or.inr (Or.inl hz))
      · exact Or.inl (Or.inr (Or.inr (Or.inl hz)))
      · by_cases hqk : q = k
        · subst hqk; exact Or.inr ⟨g5, g6, g7⟩
        · exact Or.inl (Or.inr (Or.inr (Or.inr ⟨q, g1, by omega, g3, g4, g5, g6, g7⟩)))
theorem m_w142 (hB : WB d) (hM : WMd d f0 s0 σ) (hk : MWk d f0 s0 i j l1 l2 l3 l4 l5 l6 l7 l8) (hT : TI d σ i j)
    (kk : ∀ σ', frM [9] σ σ' → (∀ x y, x ≤ wn d → y ≤ wm d → (i < x ∨ (i = x ∧ j ≤ y)) → IsMin (Pth d x y (wn d) (wm d)) (Tm σ' x y)) → ∀ v, v.toInt = (j : Int) - 1 → uOk (c16 σ' l1 l2 l3 l4 l5 l6 l7 v) P) :
    ∀ (r fuel k : Nat) (l9 l10 l11 l12 : Int32), r < fuel → k + r = 5 → 1 ≤ k → l12.toInt = k → (k = 1 ∨ (i < wn d ∧ j + k - 1 ≤ wm d)) → l10.toInt = uwsb d i j (k - 1) → l11.toInt = wlbs d j (k - 1) → Bs d i j l9.toInt (fun x y z => ustA d i j x y z ∨ ustB d i j x y z ∨ stSB d k i j x y z) → uOk (m_X12_ways_142 c7 c16 fuel σ l1 l2 l3 l4 l5 l6 l7 l8 l9 l10 l11 l12) P := by
  obtain ⟨e1, e2, e3, e4, e5, e6, e7, e8, hi, hj⟩ := id hk
  obtain ⟨m1, m2, m3, m4, m5⟩ := id hM
  have h1 := hB.1
  have h2 := hB.2.1
  have kn1 : ((1 : Int32)).toInt = 1 := rfl
  have kn4 : ((4 : Int32)).toInt = 4 := rfl
  have out : ∀ (k : Nat) (l9 : Int32), (4 < k ∨ wn d ≤ i ∨ wm d < j + k) → Bs d i j l9.toInt (fun x y z => ustA d i j x y z ∨ ustB d i j x y z ∨ stSB d k i j x y z) → uOk (m_X12_ways_264 c7 c16 σ l1 l2 l3 l4 l5 l6 l7 l8 l9) P := fun k l9 hq hb => by
    unfold m_X12_ways_264
    refine m_w273 hB hM hk hT kk 4 FV 1 l9 0 0 1 (FV_big (by omega)) (by omega) (by omega) rfl (Or.inl rfl) rfl rfl (hb.mono (fun x y z hs => ?_))
    rcases hs with hs | hs | ⟨q, q1, q2, q3, q4, q5, q6, q7⟩ | ⟨q, q1, q2, q3, q4, q5, q6, q7⟩
    · exact Or.inl hs
    · exact Or.inr (Or.inl hs)
    · exact Or.inr (Or.inr ⟨q, q1, by omega, q3, q4, q5, q6, q7⟩)
    · omega
  intro r
  induction r with
  | zero =>
    intro fuel k l9 l10 l11 l12 hf hr hk1 h12 hkk h10 h11 hb
    cases fuel with
    | zero => omega
    | succ fuel =>
      show uOk (m_X12_ways_142_s c7 c16 _ σ l1 l2 l3 l4 l5 l6 l7 l8 l9 l10 l11 l12) P
      unfold m_X12_ways_142_s
      exact ok_ite (fun _ => out k l9 (by omega) hb) (fun q => absurd (z_lt.mpr (by rw [h12, kn4]; omega)) q)
  | succ r ih =>
    intro fuel k l9 l10 l11 l12 hf hr hk1 h12 hkk h10 h11 hb
    cases fuel with
    | zero => omega
    | succ fuel =>
      show uOk (m_X12_ways_142_s c7 c16 _ σ l1 l2 l3 l4 l5 l6 l7 l8 l9 l10 l11 l12) P
      unfold m_X12_ways_142_s
      have e812 : (l8 + l12).toInt = (j + k : Nat) := by rw [z_addv e8 h12 (by omega) (by omega)]; omega
      refine ok_ite (fun q => absurd (z_lt.mp q) (by rw [h12, kn4]; omega)) (fun _ => ok_ite (fun q => out k l9 (by rw [z_le, e2, e7] at q; omega) hb) (fun q1 => ok_ite (fun q => out k l9 (by rw [z_lt, e4, e812] at q; omega) hb) (fun q2 => ?_)))
      rw [z_le, e2, e7] at q1
      rw [z_lt, e4, e812] at q2
      have eb : (l3 + l8 + l12 - 1).toInt = (s0 + (j + k - 1) : Nat) := by
        rw [z_subv (z_addv (z_addv e3 e8 (by omega) (by omega)) h12 (by omega) (by omega)) kn1 (by omega) (by omega)]; omega
      have ea : (l1 + l7).toInt = (f0 + i : Nat) := by rw [z_addv e1 e7 (by omega) (by omega)]; omega
      refine ok_b (m_pair hB hM (i := i) (j := j + k - 1) (by omega) (by omega) ea eb e5) (fun v22 s hv => ?_)
      obtain ⟨rfl, hv⟩ := hv
      have wp := wpr_b hB (i := i) (j := j + k - 1) (by omega) (by omega)
      have wa := wsb_b hB (i := i) (j := j) (by omega) (k - 1) (by omega)
      have wa' := wsb_b hB (i := i) (j := j) (by omega) k (by omega)
      have wl := wlbs_b hB (j := j) (k - 1) (by omega)
      have wl' := wlbs_b hB (j := j) k (by omega)
      have sk : uwsb d i j k = uwsb d i j (k - 1) + wpr d i (j + k - 1) := by
        have : uwsb d i j (k - 1 + 1) = uwsb d i j (k - 1) + wpr d i (j + (k - 1)) := rfl
        rw [show k - 1 + 1 = k by omega, show j + (k - 1) = j + k - 1 by omega] at this
        exact this
      have lk : wlbs d j k = wlbs d j (k - 1) + wlb d (j + k - 1) := by
        have : wlbs d j (k - 1 + 1) = wlbs d j (k - 1) + wlb d (j + (k - 1)) := rfl
        rw [show k - 1 + 1 = k by omega, show j + (k - 1) = j + k - 1 by omega] at this
        exact this
      refine ok_l fun v25 e25 => ?_
      have h25 : v25.toInt = uwsb d i j k := by rw [e25, z_addv h10 hv (by omega) (by omega), sk]
      rw [z_nv ea, z_nv eb]
      refine ok_i (by omega) (ok_l fun v28 e28 => ?_)
      have mb := m4 (j + k - 1) (by omega)
      have ml := m3 i (by omega)
      have bb := hB.2.2.2.1 (j + k - 1) (by omega)
      have bl := hB.2.2.1 i (by omega)
      have h28 : v28.toInt = wlbs d j k := by rw [e28, z_addv h11 mb.2 (by omega) (by omega), lk]
      refine ok_i ⟨by decide, by decide⟩ (ok_i (by omega) (ok_l fun v32 e32 => ?_))
      have h32 : v32.toInt = zabs (wla d i - wlbs d j k) := by rw [e32]; exact z_absv (z_subv ml.2 h28 (by omega) (by omega)) (by omega)
      have zb := zabs_b (x := wla d i - wlbs d j k) (b := 256) (by omega) (by omega)
      have k1 := hB.2.2.2.2.1 1 (by omega)
      have p1 := m5 1 (by omega)
      have mb1 := mul_b k1.1 k1.2 zb.1 zb.2
      have e71 : (l7 + 1).toInt = (i + 1 : Nat) := by rw [z_addv e7 kn1 (by omega) (by omega)]; omega
      have ei : (l6 * (l7 + 1) + l8 + l12).toInt = (25 * (i + 1) + (j + k) : Nat) := by
        rw [z_addv (z_addv (z_mulv e6 e71 (by omega) (by omega)) e8 (by omega) (by omega)) h12 (by omega) (by omega)]; omega
      rw [z_nv ei]
      refine ok_i (by omega) (ok_l fun v35 e35 => ok_l fun v37 e37 => ?_)
      have tm := hT (i + 1) (j + k) (by omega) (by omega) (by omega)
      have tb := TI.b hB (by omega) (by omega) tm
      have cb := cB_b hB (i := i) (j := j) (k := k) (by omega) (by omega) (by omega)
      have hc : (s.1 4 (1 : Int32).toNatClampNeg * v32 + v25 + s.1 11 (25 * (i + 1) + (j + k))).toInt = ucB d i j k + Tm s (i + 1) (j + k) := z_addv (z_addv (z_mulv p1 h32 (by omega) (by omega)) h25 (by omega) (by omega)) rfl (by unfold ucB Tm at *; omega) (by unfold ucB Tm at *; omega)
      have h35 : v35.toInt = if ucB d i j k + Tm s (i + 1) (j + k) < l9.toInt then ucB d i j k + Tm s (i + 1) (j + k) else l9.toInt := by rw [e35]; exact z_minv hc rfl
      refine ih fuel (k + 1) v35 v25 v28 v37 (by omega) (by omega) (by omega) (by rw [e37, z_add1 (by omega), h12]; rfl) (Or.inr ⟨by omega, by omega⟩) h25 h28 ?_
      rw [h35]
      refine (hb.upd (Or.inr (Or.inr (Or.inl ⟨k, by omega, by omega, by omega, by omega, rfl, rfl, rfl⟩))) tm).mono (fun x y z hz => ?_)
      rcases hz with hz | hz | ⟨q, g1, g2, g3, g4, g5, g6, g7⟩
      · exact Or.inl (Or.inl hz)
      · exact Or.inl (Or.inr (Or.inl hz))
      · by_cases hqk : q = k
        · subst hqk; exact Or.inr ⟨g5, g6, g7⟩
        · exact Or.inl (Or.inr (Or.inr ⟨q, g1, by omega, g3, g4, g5, g6, g7⟩))
theorem m_w87 (hB : WB d) (hM : WMd d f0 s0 σ) (hk : MWk d f0 s0 i j l1 l2 l3 l4 l5 l6 l7 l8) (hT : TI d σ i j)
    (kk : ∀ σ', frM [9] σ σ' → (∀ x y, x ≤ wn d → y ≤ wm d → (i < x ∨ (i = x ∧ j ≤ y)) → IsMin (Pth d x y (wn d) (wm d)) (Tm σ' x y)) → ∀ v, v.toInt = (j : Int) - 1 → uOk (c16 σ' l1 l2 l3 l4 l5 l6 l7 v) P)
    {l9 : Int32} (hb : Bs d i j l9.toInt (fun x y z => ustA d i j x y z)) : uOk (m_X12_ways_87 c7 c16 σ l1 l2 l3 l4 l5 l6 l7 l8 l9) P := by
  obtain ⟨e1, e2, e3, e4, e5, e6, e7, e8, hi, hj⟩ := id hk
  obtain ⟨m1, m2, m3, m4, m5⟩ := id hM
  have h1 := hB.1
  have h2 := hB.2.1
  have kn1 : ((1 : Int32)).toInt = 1 := rfl
  have go : ∀ l9 : Int32, Bs d i j l9.toInt (fun x y z => ustA d i j x y z ∨ ustB d i j x y z) → uOk (m_X12_ways_133 c7 c16 σ l1 l2 l3 l4 l5 l6 l7 l8 l9) P := fun l9 hb => by
    unfold m_X12_ways_133
    refine m_w142 hB hM hk hT kk 4 FV 1 l9 0 0 1 (FV_big (by omega)) (by omega) (by omega) rfl (Or.inl rfl) rfl rfl (hb.mono (fun x y z hs => ?_))
    rcases hs with hs | hs | ⟨q, q1, q2, q3, q4, q5, q6, q7⟩
    · exact Or.inl hs
    · exact Or.inr hs
    · omega
  unfold m_X12_ways_87
  refine ok_ite (fun q => go l9 (hb.mono (fun x y z hs => ?_))) (fun q => ?_)
  · rw [z_le, e4, e8] at q
    rcases hs with hs | hs
    · exact hs
    · exact absurd hs.1 (by omega)
  · rw [z_le, e4, e8] at q
    have eb : (l3 + l8).toInt = (s0 + j : Nat) := by rw [z_addv e3 e8 (by omega) (by omega)]; omega
    have ei : (l6 * l7 + l8 + 1).toInt = (25 * i + (j + 1) : Nat) := by
      rw [z_addv (z_addv (z_mulv e6 e7 (by omega) (by omega)) e8 (by omega) (by omega)) kn1 (by omega) (by omega)]; omega
    rw [z_nv eb, z_nv ei]
    refine ok_i ⟨by decide, by decide⟩ (ok_i (by omega) (ok_i (by omega) (ok_l fun v17 e17 => ?_)))
    have tm := hT i (j + 1) (by omega) (by omega) (by omega)
    have tb := TI.b hB (by omega) (by omega) tm
    have ab := alB_b hB (j := j) (by omega)
    have p3 := m5 3 (by omega)
    have mb := m4 j (by omega)
    have hc : (σ.1 4 (3 : Int32).toNatClampNeg * σ.1 2 (s0 + j) + σ.1 11 (25 * i + (j + 1))).toInt = wK d 3 * wlb d j + Tm σ i (j + 1) := z_addv (z_mulv p3 mb.2 (by omega) (by omega)) rfl (by unfold Tm at *; omega) (by unfold Tm at *; omega)
    have h17 : v17.toInt = if wK d 3 * wlb d j + Tm σ i (j + 1) < l9.toInt then wK d 3 * wlb d j + Tm σ i (j + 1) else l9.toInt := by rw [e17]; exact z_minv hc rfl
    refine go v17 ?_
    rw [h17]
    refine (hb.upd (Or.inr (Or.inl ⟨by omega, rfl, rfl, rfl⟩)) tm).mono (fun x y z hz => ?_)
    rcases hz with hz | hz
    · exact Or.inl hz
    · exact Or.inr hz.2
theorem m_w40 (hB : WB d) (hM : WMd d f0 s0 σ) (hk : MWk d f0 s0 i j l1 l2 l3 l4 l5 l6 l7 l8) (hT : TI d σ i j)
    (kk : ∀ σ', frM [9] σ σ' → (∀ x y, x ≤ wn d → y ≤ wm d → (i < x ∨ (i = x ∧ j ≤ y)) → IsMin (Pth d x y (wn d) (wm d)) (Tm σ' x y)) → ∀ v, v.toInt = (j : Int) - 1 → uOk (c16 σ' l1 l2 l3 l4 l5 l6 l7 v) P)
    {l9 : Int32} (hb : Bs d i j l9.toInt (fun _ _ _ => False)) : uOk (m_X12_ways_40 c7 c16 σ l1 l2 l3 l4 l5 l6 l7 l8 l9) P := by
  obtain ⟨e1, e2, e3, e4, e5, e6, e7, e8, hi, hj⟩ := id hk
  obtain ⟨m1, m2, m3, m4, m5⟩ := id hM
  have h1 := hB.1
  have h2 := hB.2.1
  have kn1 : ((1 : Int32)).toInt = 1 := rfl
  unfold m_X12_ways_40
  refine ok_ite (fun q => m_w87 hB hM hk hT kk (hb.mono (fun x y z hs => ?_))) (fun q => ?_)
  · rw [z_le, e2, e7] at q
    exact absurd hs.1 (by omega)
  · rw [z_le, e2, e7] at q
    have ea : (l1 + l7).toInt = (f0 + i : Nat) := by rw [z_addv e1 e7 (by omega) (by omega)]; omega
    have e71 : (l7 + 1).toInt = (i + 1 : Nat) := by rw [z_addv e7 kn1 (by omega) (by omega)]; omega
    have ei : (l6 * (l7 + 1) + l8).toInt = (25 * (i + 1) + j : Nat) := by
      rw [z_addv (z_mulv e6 e71 (by omega) (by omega)) e8 (by omega) (by omega)]; omega
    rw [z_nv ea, z_nv ei]
    refine ok_i ⟨by decide, by decide⟩ (ok_i (by omega) (ok_i (by omega) (ok_l fun v11 e11 => ?_)))
    have tm := hT (i + 1) j (by omega) (by omega) (by omega)
    have tb := TI.b hB (by omega) (by omega) tm
    have ab := alA_b hB (i := i) (by omega)
    have p2 := m5 2 (by omega)
    have ml := m3 i (by omega)
    have hc : (σ.1 4 (2 : Int32).toNatClampNeg * σ.1 2 (f0 + i) + σ.1 11 (25 * (i + 1) + j)).toInt = wK d 2 * wla d i + Tm σ (i + 1) j := z_addv (z_mulv p2 ml.2 (by omega) (by omega)) rfl (by unfold Tm at *; omega) (by unfold Tm at *; omega)
    have h11 : v11.toInt = if wK d 2 * wla d i + Tm σ (i + 1) j < l9.toInt then wK d 2 * wla d i + Tm σ (i + 1) j else l9.toInt := by rw [e11]; exact z_minv hc rfl
    refine m_w87 hB hM hk hT kk ?_
    rw [h11]
    exact (hb.upd (Or.inl ⟨by omega, rfl, rfl, rfl⟩) tm).mono (fun x y z hz => Or.inr hz.2)
theorem m_w16 (hB : WB d) : ∀ (r fuel : Nat) (σ : SG) (l8 : Int32), WMd d f0 s0 σ → r < fuel → l1.toInt = f0 → l2.toInt = wn d → l3.toInt = s0 → l4.toInt = wm d → l5.toInt = uws d → l6.toInt = 25 → l7.toInt = i → l8.toInt = (r : Int) - 1 → i ≤ wn d → r ≤ wm d + 1 → (∀ x y, x ≤ wn d → y ≤ wm d → (i < x ∨ (i = x ∧ r ≤ y)) → IsMin (Pth d x y (wn d) (wm d)) (Tm σ x y)) →
    (∀ σ', frM [9] σ σ' → (∀ x y, x ≤ wn d → y ≤ wm d → i ≤ x → IsMin (Pth d x y (wn d) (wm d)) (Tm σ' x y)) → ∀ v, v.toInt = (i : Int) - 1 → uOk (c7 σ' l1 l2 l3 l4 l5 l6 v) P) → uOk (m_X12_ways_16 c7 fuel σ l1 l2 l3 l4 l5 l6 l7 l8) P := by
  have k0 : ((0 : Int32)).toInt = 0 := rfl
  intro r
  induction r with
  | zero =>
    intro fuel σ l8 hM hf e1 e2 e3 e4 e5 e6 e7 e8 hi hr hT kk
    cases fuel with
    | zero => omega
    | succ fuel =>
      show uOk (m_X12_ways_16_s c7 _ σ l1 l2 l3 l4 l5 l6 l7 l8) P
      unfold m_X12_ways_16_s
      exact ok_ite (fun _ => ok_l fun v ev => kk σ frM.rf (fun x y hx hy hix => hT x y hx hy (by omega)) v (by rw [ev, z_addm1 (by omega), e7])) (fun q => absurd (z_lt.mpr (by rw [e8, k0]; omega)) q)
  | succ r ih =>
    intro fuel σ l8 hM hf e1 e2 e3 e4 e5 e6 e7 e8 hi hr hT kk
    cases fuel with
    | zero => omega
    | succ fuel =>
      show uOk (m_X12_ways_16_s c7 _ σ l1 l2 l3 l4 l5 l6 l7 l8) P
      unfold m_X12_ways_16_s
      have e8' : l8.toInt = r := by omega
      have hk : MWk d f0 s0 i r l1 l2 l3 l4 l5 l6 l7 l8 := ⟨e1, e2, e3, e4, e5, e6, e7, e8', hi, by omega⟩
      have hT' : TI d σ i r := fun x y hx hy h => hT x y hx hy (by omega)
      have next : ∀ σ', frM [9] σ σ' → (∀ x y, x ≤ wn d → y ≤ wm d → (i < x ∨ (i = x ∧ r ≤ y)) → IsMin (Pth d x y (wn d) (wm d)) (Tm σ' x y)) → ∀ v, v.toInt = (r : Int) - 1 → uOk (m_X12_ways_16 c7 fuel σ' l1 l2 l3 l4 l5 l6 l7 v) P := fun σ' hF hT2 v hv =>
        ih fuel σ' v (hM.fr hF (by decide) (by decide)) (by omega) e1 e2 e3 e4 e5 e6 e7 hv hi (by omega) hT2 (fun σ2 hF2 h3 => kk σ2 (hF.tr hF2) h3)
      have far : (i = wn d → r = wm d → False) → uOk (m_X12_ways_38 c7 (m_X12_ways_16 c7 fuel) σ l1 l2 l3 l4 l5 l6 l7 l8) P := fun hn => by
        unfold m_X12_ways_38
        exact m_w40 hB hM hk hT' next ⟨Or.inl rfl, fun _ _ _ _ h => h.elim, fun a b => (hn a b).elim⟩
      refine ok_ite (fun q => absurd (z_lt.mp q) (by rw [e8', k0]; omega)) (fun _ => ok_ite (fun q => far (fun a _ => q (by rw [z_eq, e7, e2, a]))) (fun q => ok_ite (fun q2 => far (fun _ b => q2 (by rw [z_eq, e8', e4, b]))) (fun q2 => ?_)))
      have a : l7 = l2 := Classical.not_not.mp q
      have b : l8 = l4 := Classical.not_not.mp q2
      rw [z_eq, e7, e2] at a
      rw [z_eq, e8', e4] at b
      exact m_w40 hB hM hk hT' next ⟨Or.inr ⟨by rw [show wn d = i by omega, show wm d = r by omega]; exact Pth.rf, by decide⟩, fun _ _ _ _ h => h.elim, fun _ _ => by decide⟩
end MW
theorem m_w7 {d : WD} {f0 s0 : Nat} {l1 l2 l3 l4 l5 l6 : Int32} (hB : WB d) : ∀ (r fuel : Nat) (σ : SG) (l7 : Int32), WMd d f0 s0 σ → r < fuel → l1.toInt = f0 → l2.toInt = wn d → l3.toInt = s0 → l4.toInt = wm d → l5.toInt = uws d → l6.toInt = 25 → l7.toInt = (r : Int) - 1 → r ≤ wn d + 1 → (∀ x y, x ≤ wn d → y ≤ wm d → r ≤ x → IsMin (Pth d x y (wn d) (wm d)) (Tm σ x y)) →
    uOk (m_X12_ways_7 fuel σ l1 l2 l3 l4 l5 l6 l7) (fun _ σ' => frM [9] σ σ' ∧ IsMin (Pth d 0 0 (wn d) (wm d)) (Tm σ' 0 0)) := by
  have k0 : ((0 : Int32)).toInt = 0 := rfl
  have h1 := hB.1
  have h2 := hB.2.1
  intro r
  induction r with
  | zero =>
    intro fuel σ l7 hM hf e1 e2 e3 e4 e5 e6 e7 hr hT
    cases fuel with
    | zero => omega
    | succ fuel =>
      show uOk (m_X12_ways_7_s _ σ l1 l2 l3 l4 l5 l6 l7) _
      unfold m_X12_ways_7_s
      exact ok_ite (fun _ => ok_r ⟨frM.rf, hT 0 0 (by omega) (by omega) (by omega)⟩) (fun q => absurd (z_lt.mpr (by rw [e7, k0]; omega)) q)
  | succ r ih =>
    intro fuel σ l7 hM hf e1 e2 e3 e4 e5 e6 e7 hr hT
    cases fuel with
    | zero => omega
    | succ fuel =>
      show uOk (m_X12_ways_7_s _ σ l1 l2 l3 l4 l5 l6 l7) _
      unfold m_X12_ways_7_s
      have e7' : l7.toInt = r := by omega
      refine ok_ite (fun q => absurd (z_lt.mp q) (by rw [e7', k0]; omega)) (fun _ => ?_)
      refine m_w16 (i := r) hB (wm d + 1) FV σ l4 hM (FV_big (by omega)) e1 e2 e3 e4 e5 e6 e7' (by omega) (by omega) (by omega) (fun x y hx hy h => hT x y hx hy (by omega)) (fun σ' hF hT2 v hv => ?_)
      exact (ih fuel σ' v (hM.fr hF (by decide) (by decide)) (by omega) e1 e2 e3 e4 e5 e6 hv (by omega) (fun x y hx hy h => hT2 x y hx hy h)).mono (fun _ s h => ⟨hF.tr h.1, h.2⟩)
