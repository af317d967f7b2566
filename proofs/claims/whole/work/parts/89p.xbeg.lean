/-! ===== the class begins: what a unit costs ===== -/
def frB (σ σ' : SG) : Prop := (∀ k i, k ≠ 34 → k ≠ 35 → ¬ (95 ≤ k ∧ k < 143) → σ'.1 k i = σ.1 k i) ∧ σ'.2 = σ.2
theorem frB.rf {σ : SG} : frB σ σ := ⟨fun _ _ _ _ _ => rfl, rfl⟩
theorem frB.tr {σ σ1 σ2 : SG} (h : frB σ σ1) (q : frB σ1 σ2) : frB σ σ2 := ⟨fun k i a b c => (q.1 k i a b c).trans (h.1 k i a b c), q.2.trans h.2⟩
theorem frB.sI {σ σ1 : SG} {k i : Nat} {x : Int32} (h : frB σ σ1) (q : 95 ≤ k ∧ k < 143) : frB σ (sI σ1 k i x) := ⟨fun k' i' a b c => by rw [g_sI, if_neg (by omega)]; exact h.1 k' i' a b c, h.2⟩
theorem frB.K {σ σ' : SG} (h : frB σ σ') : frK σ σ' := ⟨fun k i z => h.1 k i (by omega) (by omega) (by omega), h.2⟩
/-- note of each place in the load -/
def uEm (p : Nat → Int) (M : Nat) (e : Nat → Nat) : Prop := ∀ i, i < uRk p M → e i < M ∧ 0 ≤ p (e i) ∧ uRk p (e i) = i
theorem uEm_ex (p : Nat → Int) (M : Nat) : ∃ e, uEm p M e := by
  have h : ∀ i, ∃ k, i < uRk p M → k < M ∧ 0 ≤ p k ∧ uRk p k = i := fun i => by
    by_cases z : i < uRk p M
    · obtain ⟨k, a⟩ := uRk_inv M z
      exact ⟨k, fun _ => a⟩
    · exact ⟨0, fun y => absurd y z⟩
  exact Classical.skolem.mp h
theorem uEm.pl {p : Nat → Int} {M : Nat} {e : Nat → Nat} (h : uEm p M e) {k : Nat} (hk : k < M) (hp : 0 ≤ p k) : uRk p k < uRk p M ∧ e (uRk p k) = k := by
  have z := uRk_lt hk hp
  have := h _ z
  exact ⟨z, uRk_inj this.2.1 hp this.2.2⟩
theorem x_beg15 {p l q m : Nat → Int} {M N g : Nat} {K : Nat → Int} {e e' : Nat → Nat} {σ0 : SG} {l2 : Int32} {c2 : SG → Int32 → Option (Unit × SG)} {Q : Unit → SG → Prop} (hK : KB K) (hp : rowS p l M) (hq : rowS q m N) (he : uEm p M e) (he' : uEm q N e') (hL0 : XLd 0 p l M σ0) (hL1 : XLd 1 q m N σ0) (hK0 : KX K σ0) (hg : g < uRk p M) (h2 : l2.toInt = g)
    (kk : ∀ (s : SG) (v : Int32), frB σ0 s → (∀ i j, i < g + 1 → j < uRk q N → (s.1 (95 + i) j).toInt = uC (K 5) (K 6) p l q m (e i) (e' j) ∧ (s.1 (119 + i) j).toInt = 0) → v.toInt = (g + 1 : Nat) → uOk (c2 s v) Q) :
    ∀ (d fuel j : Nat) (σ : SG) (l3 : Int32), d < fuel → j + d = uRk q N → l3.toInt = j → frB σ0 σ → (∀ i j', i < g + 1 → j' < uRk q N → (i < g ∨ j' < j) → (σ.1 (95 + i) j').toInt = uC (K 5) (K 6) p l q m (e i) (e' j') ∧ (σ.1 (119 + i) j').toInt = 0) → uOk (m_X0_begin_15 c2 fuel σ l2 l3) Q := by
  have rM := uRk_le (p := p) M
  have rN := uRk_le (p := q) N
  have hM := hp.1
  have hN := hq.1
  have eg := he g hg
  intro d
  induction d with
  | zero =>
    intro fuel j σ l3 hf hd h3 hF hI
    cases fuel with
    | zero => omega
    | succ fuel =>
      have b2 : (σ.1 (208 + 1) 3).toInt = uRk q N := by rw [hF.1 _ _ (by omega) (by omega) (by omega)]; exact hL1.1
      show uOk (m_X0_begin_15_s c2 _ σ l2 l3) Q
      unfold m_X0_begin_15_s
      refine ok_ite (fun _ => ok_l fun v9 e9 => kk σ v9 hF (fun i j' hi hj => hI i j' hi hj (by omega)) (by rw [e9, z_add1 (by omega), h2]; rfl)) (fun z => absurd (z_le.mpr (by rw [b2, h3]; omega)) z)
  | succ d ih =>
    intro fuel j σ l3 hf hd h3 hF hI
    cases fuel with
    | zero => omega
    | succ fuel =>
      have hj : j < uRk q N := by omega
      have ej := he' j hj
      have b2 : (σ.1 (208 + 1) 3).toInt = uRk q N := by rw [hF.1 _ _ (by omega) (by omega) (by omega)]; exact hL1.1
      have lg := hL0.2.2 (e g) eg.1 eg.2.1
      have lj := hL1.2.2 (e' j) ej.1 ej.2.1
      rw [eg.2.2] at lg
      rw [ej.2.2] at lj
      have bg : (σ.1 (30 + 0) g).toInt = uS l (e g) := by rw [hF.1 _ _ (by omega) (by omega) (by omega)]; exact lg.2.1
      have bj : (σ.1 (30 + 1) j).toInt = uS m (e' j) := by rw [hF.1 _ _ (by omega) (by omega) (by omega)]; exact lj.2.1
      have pg : (σ.1 (28 + 0) g).toInt = p (e g) := by rw [hF.1 _ _ (by omega) (by omega) (by omega)]; exact lg.1
      have pj : (σ.1 (28 + 1) j).toInt = q (e' j) := by rw [hF.1 _ _ (by omega) (by omega) (by omega)]; exact lj.1
      have p5 : (σ.1 18 (5 : Int32).toNatClampNeg).toInt = K 5 := by show (σ.1 18 5).toInt = K 5; rw [hF.1 _ _ (by omega) (by omega) (by omega)]; exact hK0 5 (by omega)
      have p6 : (σ.1 18 (6 : Int32).toNatClampNeg).toInt = K 6 := by show (σ.1 18 6).toInt = K 6; rw [hF.1 _ _ (by omega) (by omega) (by omega)]; exact hK0 6 (by omega)
      have b3 := hp.bg (e g) (by omega)
      have b4 := hq.bg (e' j) (by omega)
      have b5 := hp.2 (e g) eg.1
      have b6 := hq.2 (e' j) ej.1
      have cb := uC_b (a := K 5) (b := K 6) hp hq eg.1 ej.1 (hK 5 (by omega)) (hK 6 (by omega))
      show uOk (m_X0_begin_15_s c2 _ σ l2 l3) Q
      unfold m_X0_begin_15_s
      rw [z_nv h2, z_nv h3]
      refine ok_ite (fun z => absurd (z_le.mp z) (by rw [b2, h3]; omega)) (fun _ => ok_i (by omega) (ok_i (by omega) (ok_l fun v13 e13 => ok_i (by omega) (ok_i (by omega) (ok_l fun v17 e17 => ok_i (by omega) (ok_g rfl (ok_g rfl (ok_i (by omega) (ok_l fun s24 e24 => ok_i (by omega) (ok_i (by omega) (ok_l fun s29 e29 => ok_l fun v31 e31 => ih fuel (j + 1) s29 v31 (by omega) (by omega) (by rw [e31, z_add1 (by omega), h3]; rfl) (by rw [e29, e24]; exact (hF.sI (by omega)).sI (by omega)) (fun i j' hi hj' hh => ?_))))))))))))
      have h13 : v13.toInt = uab (uS l (e g) - uS m (e' j)) := by rw [e13]; exact z_abs (z_subv bg bj (by omega) (by omega)) (by omega)
      have h17 : v17.toInt = uab (p (e g) - q (e' j)) := by rw [e17]; exact z_abs (z_subv pg pj (by omega) (by omega)) (by omega)
      by_cases z : i = g ∧ j' = j
      · rw [z.1, z.2]
        refine ⟨?_, by rw [e29, g_sI_s]; rfl⟩
        rw [e29, g_sI, if_neg (by omega), e24, g_sI_s]
        unfold uC at cb ⊢
        exact z_addv (z_mulv p5 h13 (by omega) (by omega)) (z_mulv p6 h17 (by omega) (by omega)) (by omega) (by omega)
      · have := hI i j' hi hj' (by omega)
        rw [e29, g_sI, if_neg (by omega), e24, g_sI, if_neg (by omega), g_sI, if_neg (by omega), g_sI, if_neg (by omega)]
        exact this
theorem x_beg2 {p l q m : Nat → Int} {M N : Nat} {K : Nat → Int} {e e' : Nat → Nat} {σ0 : SG} (hK : KB K) (hp : rowS p l M) (hq : rowS q m N) (he : uEm p M e) (he' : uEm q N e') (hL0 : XLd 0 p l M σ0) (hL1 : XLd 1 q m N σ0) (hK0 : KX K σ0) :
    ∀ (d fuel g : Nat) (σ : SG) (l2 : Int32), d < fuel → g + d = uRk p M → l2.toInt = g → frB σ0 σ → (∀ i j, i < g → j < uRk q N → (σ.1 (95 + i) j).toInt = uC (K 5) (K 6) p l q m (e i) (e' j) ∧ (σ.1 (119 + i) j).toInt = 0) → uOk (m_X0_begin_2 fuel σ l2) (fun _ s => frB σ0 s ∧ (∀ i j, i < uRk p M → j < uRk q N → (s.1 (95 + i) j).toInt = uC (K 5) (K 6) p l q m (e i) (e' j) ∧ (s.1 (119 + i) j).toInt = 0) ∧ (∀ i, i < 24 → s.1 34 i = 0) ∧ ∀ j, j < 24 → s.1 35 j = 0) := by
  have rM := uRk_le (p := p) M
  have rN := uRk_le (p := q) N
  have hM := hp.1
  have hN := hq.1
  intro d
  induction d with
  | zero =>
    intro fuel g σ l2 hf hd h2 hF hI
    cases fuel with
    | zero => omega
    | succ fuel =>
      have b1 : (σ.1 (208 + 0) 3).toInt = uRk p M := by rw [hF.1 _ _ (by omega) (by omega) (by omega)]; exact hL0.1
      show uOk (m_X0_begin_2_s _ σ l2) _
      unfold m_X0_begin_2_s
      refine ok_ite (fun _ => ok_b (x_fillK rfl) (fun _ s3 ⟨f3, g3⟩ => ok_b (x_fillK rfl) (fun _ s6 ⟨f6, g6⟩ => ok_r ⟨hF.tr ⟨fun k i y1 y2 y3 => ?_, ?_⟩, fun i j hi hj => ?_, fun i hi => ?_, g6⟩))) (fun z => absurd (z_le.mpr (by rw [b1, h2]; omega)) z)
      · rw [f6.1 _ _ (by omega), f3.1 _ _ (by omega)]
      · rw [f6.2, f3.2]
      · rw [f6.1 _ _ (by omega), f3.1 _ _ (by omega), f6.1 (119 + i) _ (by omega), f3.1 (119 + i) _ (by omega)]; exact hI i j (by omega) hj
      · rw [f6.1 _ _ (by omega)]; exact g3 i hi
  | succ d ih =>
    intro fuel g σ l2 hf hd h2 hF hI
    cases fuel with
    | zero => omega
    | succ fuel =>
      have b1 : (σ.1 (208 + 0) 3).toInt = uRk p M := by rw [hF.1 _ _ (by omega) (by omega) (by omega)]; exact hL0.1
      show uOk (m_X0_begin_2_s _ σ l2) _
      unfold m_X0_begin_2_s
      refine ok_ite (fun z => absurd (z_le.mp z) (by rw [b1, h2]; omega)) (fun _ => ?_)
      exact x_beg15 hK hp hq he he' hL0 hL1 hK0 (by omega) h2 (fun s v f hh hv => ih fuel (g + 1) s v (by omega) (by omega) hv f hh) (uRk q N) FV 0 σ 0 (FV_big (by omega)) (by omega) rfl hF (fun i j' hi hj hh => hI i j' (by omega) hj)
/-! ===== from the places of the loads to the notes ===== -/
theorem x_lift {p l q m : Nat → Int} {M N : Nat} {C f : Nat → Nat → Int} {r s : Nat → Int} {e e' : Nat → Nat} (hp : rowS p l M) (hq : rowS q m N) (he : uEm p M e) (he' : uEm q N e') (hX : uXi (uRk p M) (uRk q N) (fun i j => C (e i) (e' j)) f (fun i => l (e i)) (fun j => m (e' j)) r s) (hrow : ∀ k, k < uRk p M → uS (f k) (uRk q N) = l (e k)) : uBest M N (uA p l) (uA q m) C (uS (uA p l) M) (uCt (uRk p M) (uRk q N) (fun i j => C (e i) (e' j)) f) := by
  obtain ⟨x1, x2, x3, x4, x5, x6, x7, x8, x9, x10, x11⟩ := hX
  have x3 : ∀ i j, i < uRk p M → j < uRk q N → 0 ≤ C (e i) (e' j) ∧ C (e i) (e' j) ≤ 2000000 := x3
  have x7 : ∀ i j, i < uRk p M → j < uRk q N → r i + s j ≤ C (e i) (e' j) := x7
  have x8 : ∀ i j, i < uRk p M → j < uRk q N → 0 < f i j → r i + s j = C (e i) (e' j) := x8
  obtain ⟨F, eF⟩ : ∃ F : Nat → Nat → Int, ∀ k j, F k j = if p k < 0 then 0 else if q j < 0 then 0 else f (uRk p k) (uRk q j) := ⟨_, fun _ _ => rfl⟩
  have Frow : ∀ k, k < M → uS (F k) N = if p k < 0 then 0 else uS (f (uRk p k)) (uRk q N) := fun k hk => by
    by_cases z : p k < 0
    · rw [if_pos z, uS_eq (g := fun _ => 0) N (fun j _ => by rw [eF, if_pos z]), uS_zero]
    · rw [if_neg z, ← uS_rk N]
      exact uS_eq N (fun j _ => by rw [eF, if_neg z])
  have Fcol : ∀ j, j < N → uS (fun k => F k j) M = if q j < 0 then 0 else uS (fun i => f i (uRk q j)) (uRk p M) := fun j hj => by
    by_cases z : q j < 0
    · rw [if_pos z, uS_eq (g := fun _ => 0) M (fun k _ => by rw [eF, if_pos z]; split <;> rfl), uS_zero]
    · rw [if_neg z, ← uS_rk (h := fun i => f i (uRk q j)) M]
      exact uS_eq M (fun k _ => by rw [eF, if_neg z])
  have nn : ∀ k j, k < M → j < N → 0 ≤ F k j := fun k j hk hj => by
    rw [eF]
    by_cases z : p k < 0
    · rw [if_pos z]; exact Int.le_refl _
    · by_cases y : q j < 0
      · rw [if_neg z, if_pos y]; exact Int.le_refl _
      · rw [if_neg z, if_neg y]
        exact x4 _ _ (he.pl hk (by omega)).1 (he'.pl hj (by omega)).1
  have Ct : uCt M N C F = uCt (uRk p M) (uRk q N) (fun i j => C (e i) (e' j)) f := by
    unfold uCt
    rw [← uS_rk (h := fun i => uS (fun j => C (e i) (e' j) * f i j) (uRk q N)) M]
    refine uS_eq M (fun k hk => ?_)
    by_cases z : p k < 0
    · rw [if_pos z, uS_eq (g := fun _ => 0) N (fun j _ => by rw [eF, if_pos z, Int.mul_zero]), uS_zero]
    · rw [if_neg z, ← uS_rk (h := fun j => C (e (uRk p k)) (e' j) * f (uRk p k) j) N]
      refine uS_eq N (fun j hj => ?_)
      by_cases y : q j < 0
      · rw [eF, if_neg z, if_pos y, if_pos y, Int.mul_zero]
      · rw [eF, if_neg z, if_neg y, if_neg y, (he.pl hk (by omega)).2, (he'.pl hj (by omega)).2]
  have rowA : ∀ k, k < M → uS (F k) N = uA p l k := fun k hk => by
    rw [Frow k hk]
    unfold uA
    by_cases z : p k < 0
    · rw [if_pos z, if_pos z]
    · rw [if_neg z, if_neg z, hrow _ (he.pl hk (by omega)).1, (he.pl hk (by omega)).2]
  rw [← Ct]
  refine uBest.cert (u := fun k => -(r (uRk p k))) (v := fun j => s (uRk q j)) (E := -2000000) (D := 0) ⟨nn, fun k hk => by rw [rowA k hk]; exact Int.le_refl _, fun j hj => ?_, uS_eq M rowA⟩ (fun k j hk hj a b => ?_) (fun k j hk hj z => ?_) (fun k hk _ z => ?_) (fun k hk z => ?_) (fun j hj a z => ?_) (fun j hj z => ?_)
  · rw [Fcol j hj]
    unfold uA
    by_cases z : q j < 0
    · rw [if_pos z, if_pos z]; exact Int.le_refl _
    · rw [if_neg z, if_neg z]
      have w := he'.pl hj (show 0 ≤ q j by omega)
      have := (x6 _ w.1).1
      have : uS (fun i => f i (uRk q j)) (uRk p M) ≤ m (e' (uRk q j)) := this
      rw [w.2] at this
      exact this
  · have w := he.pl hk ((hp.ua hk).2.2.mp a)
    have w' := he'.pl hj ((hq.ua hj).2.2.mp b)
    have := x7 _ _ w.1 w'.1
    rw [w.2, w'.2] at this
    show s (uRk q j) - -(r (uRk p k)) ≤ C k j
    omega
  · rw [eF] at z
    by_cases y : p k < 0
    · rw [if_pos y] at z; omega
    · by_cases y' : q j < 0
      · rw [if_neg y, if_pos y'] at z; omega
      · rw [if_neg y, if_neg y'] at z
        have w := he.pl hk (show 0 ≤ p k by omega)
        have w' := he'.pl hj (show 0 ≤ q j by omega)
        have := x8 _ _ w.1 w'.1 z
        rw [w.2, w'.2] at this
        show C k j = s (uRk q j) - -(r (uRk p k))
        omega
  · rw [rowA k hk] at z; omega
  · rw [rowA k hk] at z
    have w := he.pl hk ((hp.ua hk).2.2.mp z)
    have := x11 _ w.1
    show (-2000000 : Int) ≤ -(r (uRk p k))
    omega
  · have w := he'.pl hj ((hq.ua hj).2.2.mp a)
    have qj := (hq.ua hj).2.2.mp a
    rw [Fcol j hj, if_neg (by omega)] at z
    have y := x10 (uRk q j) w.1
    have y : uS (fun i => f i (uRk q j)) (uRk p M) < m (e' (uRk q j)) → s (uRk q j) = 0 := y
    rw [w.2] at y
    have := y (by unfold uA at z; rw [if_neg (by omega)] at z; exact z)
    show (0 : Int) ≤ s (uRk q j)
    omega
  · rw [Fcol j hj] at z
    by_cases y : q j < 0
    · rw [if_pos y] at z; omega
    · have w := he'.pl hj (show 0 ≤ q j by omega)
      exact (x9 _ w.1).2
theorem x_least {p l q m : Nat → Int} {M N : Nat} {K : Nat → Int} {σ : SG} (hK : KB K) (hp : rowS p l M) (hq : rowS q m N) (hL0 : XLd 0 p l M σ) (hL1 : XLd 1 q m N σ) (hK0 : KX K σ) (hU : uS (uA p l) M ≤ uS (uA q m) N) : uOk (m_X0_leastCost σ) (fun v s => frK σ s ∧ ∃ V, uBest M N (uA p l) (uA q m) (uC (K 5) (K 6) p l q m) (uS (uA p l) M) V ∧ v.toInt = K 7 * (uS (uA q m) N - uS (uA p l) M) + V) := by
  obtain ⟨e, he⟩ := uEm_ex p M
  obtain ⟨e', he'⟩ := uEm_ex q N
  have rM := uRk_le (p := p) M
  have rN := uRk_le (p := q) N
  have hM := hp.1
  have hN := hq.1
  have un1 := hp.un M (by omega)
  have un2 := hq.un N (by omega)
  have sA : uS (fun i => l (e i)) (uRk p M) = uS (uA p l) M := by
    rw [← uS_rk (h := fun i => l (e i)) M]
    refine uS_eq M (fun k hk => ?_)
    unfold uA
    by_cases z : p k < 0
    · rw [if_pos z, if_pos z]
    · rw [if_neg z, if_neg z, (he.pl hk (by omega)).2]
  have sB : uS (fun j => m (e' j)) (uRk q N) = uS (uA q m) N := by
    rw [← uS_rk (h := fun i => m (e' i)) N]
    refine uS_eq N (fun k hk => ?_)
    unfold uA
    by_cases z : q k < 0
    · rw [if_pos z, if_pos z]
    · rw [if_neg z, if_neg z, (he'.pl hk (by omega)).2]
  unfold m_X0_leastCost m_X0_leastCost_0
  refine ok_b (x_beg2 hK hp hq he he' hL0 hL1 hK0 (uRk p M) FV 0 σ 0 (FV_big (by omega)) (by omega) rfl frB.rf (fun i j hi => by omega)) (fun _ s2 ⟨f2, c2, r2, t2⟩ => ?_)
  have hX0 : uXi (uRk p M) (uRk q N) (fun i j => uC (K 5) (K 6) p l q m (e i) (e' j)) (fun _ _ => 0) (fun i => l (e i)) (fun j => m (e' j)) (fun _ => 0) (fun _ => 0) := by
    refine ⟨by omega, by omega, fun i j hi hj => uC_ok hK hp hq _ _ (he i hi).1 (he' j hj).1, fun _ _ _ _ => Int.le_refl _, fun i hi => ?_, fun j hj => ?_, fun i j hi hj => ?_, fun i j _ _ z => absurd z (by show ¬ (0 : Int) < 0; omega), fun j _ => ⟨by show (-2000000 : Int) ≤ 0; omega, Int.le_refl _⟩, fun _ _ _ => rfl, fun i _ => ⟨Int.le_refl _, by show (0 : Int) ≤ 2000000; omega⟩⟩
    · show uS (fun _ => 0) (uRk q N) ≤ l (e i) ∧ l (e i) ≤ 64
      have := hp.2 (e i) (he i hi).1
      rw [uS_zero]; omega
    · show uS (fun _ => 0) (uRk p M) ≤ m (e' j) ∧ 1 ≤ m (e' j) ∧ m (e' j) ≤ 64
      have := hq.2 (e' j) (he' j hj).1
      rw [uS_zero]; omega
    · show (0 : Int) + 0 ≤ uC (K 5) (K 6) p l q m (e i) (e' j)
      have := (uC_ok hK hp hq _ _ (he i hi).1 (he' j hj).1).1
      omega
  have hS0 : uXs (uRk p M) (uRk q N) (fun i j => uC (K 5) (K 6) p l q m (e i) (e' j)) (fun _ _ => 0) (fun i => l (e i)) (fun j => m (e' j)) (fun _ => 0) (fun _ => 0) s2 := by
    refine ⟨?_, ?_, c2, fun i hi => ⟨by rw [r2 i (by omega)]; rfl, ?_⟩, fun j hj => ⟨by rw [t2 j (by omega)]; rfl, ?_⟩⟩
    · rw [f2.1 _ _ (by omega) (by omega) (by omega)]; exact hL0.1
    · rw [f2.1 _ _ (by omega) (by omega) (by omega)]; exact hL1.1
    · rw [f2.1 _ _ (by omega) (by omega) (by omega)]
      show _ = l (e i) - uS (fun _ => 0) (uRk q N)
      have := (hL0.2.2 (e i) (he i hi).1 (he i hi).2.1).2.2
      rw [(he i hi).2.2] at this
      rw [uS_zero, this]; omega
    · rw [f2.1 _ _ (by omega) (by omega) (by omega)]
      show _ = m (e' j) - uS (fun _ => 0) (uRk p M)
      have := (hL1.2.2 (e' j) (he' j hj).1 (he' j hj).2.1).2.2
      rw [(he' j hj).2.2] at this
      rw [uS_zero, this]; omega
  have hK2 : KX K s2 := fun k hk => by rw [f2.1 _ _ (by omega) (by omega) (by omega)]; exact hK0 k hk
  refine (x_cost7 (ua := uS (uA p l) M) (ub := uS (uA q m) N) (σ0 := s2) (by rw [sA, sB]; exact hU) hK hK2 (by omega) (uRk p M) FV 0 s2 (fun _ _ => 0) (fun _ => 0) (fun _ => 0) 0 (FV_big (by omega)) (by omega) rfl frK.rf (by rw [f2.1 _ _ (by omega) (by omega) (by omega)]; exact hL0.2.1) (by rw [f2.1 _ _ (by omega) (by omega) (by omega)]; exact hL1.2.1) hX0 hS0 (fun k hk => by omega)).mono (fun v s ⟨g1, f, r, t, g2, g3, g4⟩ => ⟨f2.K.tr g1, _, x_lift hp hq he he' g2 g3, g4⟩)
