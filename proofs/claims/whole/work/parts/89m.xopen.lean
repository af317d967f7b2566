/-! ===== the nearest taker that has room ===== -/
theorem uS_one : ∀ n : Nat, uS (fun _ => 1) n = n
  | 0 => rfl
  | n + 1 => by
    show uS (fun _ => 1) n + 1 = _
    rw [uS_one n]; omega
def xcd (b : Nat) (σ : SG) : Int := uS (fun t => if σ.1 143 t = 0 then 0 else 1) b
theorem xcd_lt {b j : Nat} {σ : SG} (hj : j < b) (h : ¬ xd σ j) : xcd b σ < b := by
  have z : σ.1 143 j = 0 := Classical.not_not.mp h
  have e := uS_ge (f := fun t => 1 - (if σ.1 143 t = 0 then 0 else 1)) b j (fun k _ => by show (0 : Int) ≤ 1 - (if σ.1 143 k = 0 then 0 else 1); split <;> omega) hj
  have e : (1 : Int) - (if σ.1 143 j = 0 then 0 else 1) ≤ uS (fun t => 1 - (if σ.1 143 t = 0 then 0 else 1)) b := e
  rw [if_pos z, uS_sub (f := fun _ => 1), uS_one] at e
  unfold xcd
  omega
/-- what the search leaves: an open taker, nearest -/
def uNo (a b : Nat) (c f : Nat → Nat → Int) (B r s : Nat → Int) (giver tk : Nat) (σ : SG) : Prop := tk < b ∧ uS (fun i => f i tk) a < B tk ∧ ¬ xd σ tk ∧ (∀ t, t < b → ¬ xd σ t → xT σ tk ≤ xT σ t) ∧ ∃ tk' K cur, K ≤ 23 ∧ uDs2 a b c f B r s giver tk' a K cur σ
theorem uDk.fin {a b giver tk lim K : Nat} {c f : Nat → Nat → Int} {A B r s : Nat → Int} {cur : Int} {ord : Nat → Nat} {R V T W : Nat → Int} {dn : Nat → Prop} (hX : uXi a b c f A B r s) (h : uDk a b c f B r s giver tk lim K cur ord R V T W dn) {t : Nat} (ht : t < b) : 0 ≤ T t ∧ T t ≤ 4000000 ∧ (uS (fun i => f i t) a < B t → T t ≤ 2000000 ∧ ¬ dn t) := by
  obtain ⟨x1, x2, x3, x4, x5, x6, x7, x8, x9, x10, x11⟩ := hX
  obtain ⟨d1, d2, d3, d4, d5, d6, d7, d8⟩ := h
  have t2 := d6 t giver ht d4.1 (by omega)
  have t4 := x3 giver t d4.1 ht
  have t5 := x11 giver d4.1
  have t6 := x9 t ht
  obtain ⟨i, a1, a2, a3, a4, a5⟩ := d5 t ht
  have t7 := x7 i t a1 ht
  have t8 := d2 i a1
  refine ⟨by omega, by omega, fun z => ⟨?_, fun y => ?_⟩⟩
  · have := x10 t ht z
    omega
  · have := (d7 t ht y).1
    omega
theorem x_open51 {a b giver : Nat} {c f : Nat → Nat → Int} {A B r s : Nat → Int} {σ0 : SG} (hX : uXi a b c f A B r s) (hS0 : uXs a b c f A B r s σ0) (hop : ∃ j, j < b ∧ uS (fun i => f i j) a < B j) :
    ∀ (d fuel k : Nat) (σ : SG) (l2 : Int32), d < fuel → k + d = b → l2.toInt = k → frY σ0 σ → xcd b σ = k → (∃ tk' cur, uDs2 a b c f B r s giver tk' a k cur σ) → uOk (m_X0_nearestOpenTaker_51 fuel σ l2) (fun v q => frY σ0 q ∧ ∃ tk : Nat, v.toInt = tk ∧ uNo a b c f B r s giver tk q) := by
  have k0 : ((0 : Int32)).toInt = 0 := rfl
  have a24 := hX.1
  have b24 := hX.2.1
  obtain ⟨j, hj, oj⟩ := hop
  intro d
  induction d with
  | zero =>
    intro fuel k σ l2 hf hd h2 hF hc hD
    obtain ⟨tk', cur, ord, hDk⟩ := hD
    have := xcd_lt hj ((hDk.fin hX hj).2.2 oj).2
    omega
  | succ d ih =>
    intro fuel k σ l2 hf hd h2 hF hc hD
    cases fuel with
    | zero => omega
    | succ fuel =>
      obtain ⟨tk', cur, ord, hDk⟩ := hD
      have hS := hS0.Y ⟨a24, b24⟩ hF
      obtain ⟨s1, s2, s3, s4, s5⟩ := id hS
      have fj := hDk.fin hX hj
      show uOk (m_X0_nearestOpenTaker_51_s _ σ l2) _
      unfold m_X0_nearestOpenTaker_51_s
      refine ok_ite (fun q => absurd (z_le.mp q) (by rw [s2, h2]; omega)) (fun _ => ok_b (x_nearestTaker b24 s2 ⟨j, hj, (fj.2.2 oj).2, by omega⟩) (fun v17 s18 ⟨es, tk, htk, hv, nd, mn⟩ => ?_))
      rw [es]
      refine ok_ite (fun q => ?_) (fun q => ?_)
      · rw [q] at hv
        have hv : (-1 : Int) = tk := hv
        omega
      · rw [z_nv hv]
        have lf := (s5 tk htk).2
        refine ok_i (by omega) (ok_ite (fun q2 => ok_i (by omega) (ok_l fun s24 e24 => ?_)) (fun q2 => ok_r ⟨hF, tk, hv, htk, ?_, nd, mn, tk', k, cur, by omega, ord, hDk⟩))
        · have cl : uS (fun i => f i tk) a = B tk := by
            have := hX.2.2.2.2.2.1 tk htk
            rw [z_le, lf, k0] at q2; omega
          have f24 : frY σ0 s24 := by rw [e24]; exact hF.sI (by omega)
          have g143 : ∀ t, s24.1 143 t = if t = tk then 1 else σ.1 143 t := fun t => by
            rw [e24, g_sI]
            by_cases e : t = tk
            · rw [if_pos ⟨rfl, e⟩, if_pos e]
            · rw [if_neg (fun y => e y.2), if_neg e]
          have dn' : ∀ t, t < b → (xd s24 t ↔ xd σ t ∨ t = tk) := fun t _ => by
            unfold xd
            rw [g143 t]
            by_cases e : t = tk
            · rw [if_pos e]; exact ⟨fun _ => Or.inr e, fun _ => by decide⟩
            · rw [if_neg e]; exact ⟨Or.inl, fun y => y.resolve_right e⟩
          have oR : xR s24 = xR σ := funext fun i => by unfold xR; rw [e24, g_sI, if_neg (by omega)]
          have oV : xV s24 = xV σ := funext fun i => by unfold xV; rw [e24, g_sI, if_neg (by omega)]
          have oT : xT s24 = xT σ := funext fun i => by unfold xT; rw [e24, g_sI, if_neg (by omega)]
          have oW : xW s24 = xW σ := funext fun i => by unfold xW; rw [e24, g_sI, if_neg (by omega)]
          have nx := hDk.next (tk := tk) (dn' := xd s24) hX htk nd cl mn ⟨j, hj, (fj.2.2 oj).2, oj⟩ dn'
          have tkd : xd s24 tk := (dn' tk htk).mpr (Or.inr rfl)
          refine ok_b (x_reachGiversOf (giver := giver) (K := k + 1) (cur := xT σ tk) hX (hS0.Y ⟨a24, b24⟩ f24) hv htk (by rw [oT]) tkd ⟨ord, by rw [oR, oV, oT, oW]; exact nx⟩) (fun _ s27 ⟨f27, D27⟩ => ok_l fun v29 e29 => ih fuel (k + 1) s27 v29 (by omega) (by omega) (by rw [e29, z_add1 (by omega), h2]; rfl) (f24.tr f27.Y) ?_ ⟨tk, _, D27⟩)
          have z0 : σ.1 143 tk = 0 := Classical.not_not.mp nd
          have ec : xcd b s27 = uS (fun t => if t = tk then (if σ.1 143 t = 0 then 0 else 1) + 1 else (if σ.1 143 t = 0 then 0 else 1)) b := uS_eq b (fun t _ => by
            rw [f27.1 _ _ (by omega), g143 t]
            by_cases e : t = tk
            · rw [if_pos e, if_pos e, e, if_pos z0, if_neg (by decide)]; rfl
            · rw [if_neg e, if_neg e])
          rw [ec, uS_up (f := fun t => if σ.1 143 t = 0 then 0 else 1), if_pos htk]
          have : uS (fun t => if σ.1 143 t = 0 then 0 else 1) b = k := hc
          omega
        · rw [z_le, lf, k0] at q2; omega
theorem x_open10 {a b giver : Nat} {c f : Nat → Nat → Int} {A B r s : Nat → Int} {σ0 : SG} {l1 : Int32} (hX : uXi a b c f A B r s) (hS0 : uXs a b c f A B r s σ0) (hop : ∃ j, j < b ∧ uS (fun i => f i j) a < B j) (hg : giver < a) (h1 : l1.toInt = giver) :
    ∀ (d fuel k : Nat) (σ : SG) (l2 : Int32), d < fuel → k + d = b → l2.toInt = k → frY σ0 σ → (∀ i, i < 24 → σ.1 36 i = -1) → (∀ t, t < k → xT σ t = 2147483647 ∧ σ.1 143 t = 0) → uOk (m_X0_nearestOpenTaker_10 fuel σ l1 l2) (fun v q => frY σ0 q ∧ ∃ tk : Nat, v.toInt = tk ∧ uNo a b c f B r s giver tk q) := by
  have a24 := hX.1
  have b24 := hX.2.1
  intro d
  induction d with
  | zero =>
    intro fuel k σ l2 hf hd h2 hF hR hT
    cases fuel with
    | zero => omega
    | succ fuel =>
      have hS := hS0.Y ⟨a24, b24⟩ hF
      show uOk (m_X0_nearestOpenTaker_10_s _ σ l1 l2) _
      unfold m_X0_nearestOpenTaker_10_s
      have s2 := hS.2.1
      refine ok_ite (fun _ => ok_b (x_reachGiver (reach := 0) hX hS hg h1 rfl (by omega)) (fun _ s6 ⟨g1, g2, g3, g4⟩ => ?_)) (fun q => absurd (z_le.mpr (by rw [s2, h2]; omega)) q)
      have z143 : ∀ t, t < b → s6.1 143 t = 0 := fun t ht => by rw [g1.1 _ _ (by omega)]; exact (hT t (by omega)).2
      refine x_open51 hX hS0 hop b FV 0 s6 0 (FV_big (by omega)) (by omega) rfl (hF.tr g1.Y) ?_ ⟨b, 0, fun _ => 0, uDk.first hX hg (fun i hi => ?_) ?_ (fun t ht => ?_) (fun t ht y => y (z143 t ht))⟩
      · have : xcd b s6 = uS (fun _ => 0) b := uS_eq b (fun t ht => by rw [z143 t ht, if_pos rfl])
        rw [this, uS_zero]; rfl
      · rw [g2 i]
        by_cases e : i = giver
        · rw [if_pos e, if_pos e]
        · rw [if_neg e, if_neg e]
          unfold xR; rw [hR i (by omega)]; rfl
      · rw [g3 giver, if_pos rfl]; rfl
      · have c3 := hX.2.2.1 giver t hg ht
        have c9 := hX.2.2.2.2.2.2.2.2.1 t ht
        have c11 := hX.2.2.2.2.2.2.2.2.2.2 giver hg
        have tt := (hT t (by omega)).1
        rcases g4 t ht with ⟨z1, z2, z3⟩ | ⟨z1, z2, z3, z4⟩
        · exfalso
          rcases z1 with z1 | z1
          · exact z1 (hT t (by omega)).2
          · have z1 : xT σ t ≤ 0 + (c giver t - r giver - s t) := z1
            omega
        · exact ⟨by rw [z3]; show 0 + (c giver t - r giver - s t) = _; omega, z4⟩
  | succ d ih =>
    intro fuel k σ l2 hf hd h2 hF hR hT
    cases fuel with
    | zero => omega
    | succ fuel =>
      have s2 := (hS0.Y ⟨a24, b24⟩ hF).2.1
      show uOk (m_X0_nearestOpenTaker_10_s _ σ l1 l2) _
      unfold m_X0_nearestOpenTaker_10_s
      rw [z_nv h2]
      refine ok_ite (fun q => absurd (z_le.mp q) (by rw [s2, h2]; omega)) (fun _ => ok_i (by omega) (ok_l fun s9 e9 => ok_i (by omega) (ok_l fun s12 e12 => ok_l fun v14 e14 => ih fuel (k + 1) s12 v14 (by omega) (by omega) (by rw [e14, z_add1 (by omega), h2]; rfl) ?_ (fun i hi => ?_) (fun t ht => ⟨?_, ?_⟩))))
      · rw [e12, e9]; exact (hF.sI (by omega)).sI (by omega)
      · rw [e12, g_sI, if_neg (by omega), e9, g_sI, if_neg (by omega)]; exact hR i hi
      · unfold xT
        rw [e12, g_sI, if_neg (by omega), e9, g_sI]
        by_cases e : t = k
        · rw [if_pos ⟨rfl, e⟩]; rfl
        · rw [if_neg (fun y => e y.2)]; exact (hT t (by omega)).1
      · rw [e12, g_sI]
        by_cases e : t = k
        · rw [if_pos ⟨rfl, e⟩]
        · rw [if_neg (fun y => e y.2), e9, g_sI, if_neg (by omega)]; exact (hT t (by omega)).2
theorem x_nearestOpen {a b giver : Nat} {c f : Nat → Nat → Int} {A B r s : Nat → Int} {σ : SG} {l1 : Int32} (hX : uXi a b c f A B r s) (hS : uXs a b c f A B r s σ) (hop : ∃ j, j < b ∧ uS (fun i => f i j) a < B j) (hg : giver < a) (h1 : l1.toInt = giver) : uOk (m_X0_nearestOpenTaker σ l1) (fun v q => frY σ q ∧ ∃ tk : Nat, v.toInt = tk ∧ uNo a b c f B r s giver tk q) := by
  have b24 := hX.2.1
  unfold m_X0_nearestOpenTaker m_X0_nearestOpenTaker_0
  refine ok_b (x_fillK rfl) (fun _ s2 ⟨f2, g2⟩ => ?_)
  have fD : frY σ s2 := ⟨fun k i y _ => f2.1 k i (by omega), f2.2⟩
  exact x_open10 hX hS hop hg h1 b FV 0 s2 0 (FV_big (by omega)) (by omega) rfl fD g2 (fun t ht => by omega)
/-! ===== the rates change ===== -/
def frH (σ σ' : SG) : Prop := (∀ k i, k ≠ 34 → k ≠ 35 → σ'.1 k i = σ.1 k i) ∧ σ'.2 = σ.2
theorem frH.tr {σ σ1 σ2 : SG} (h : frH σ σ1) (q : frH σ1 σ2) : frH σ σ2 := ⟨fun k i a b => (q.1 k i a b).trans (h.1 k i a b), q.2.trans h.2⟩
theorem x_rates48 {b : Nat} {ρ : Int} {σ0 : SG} {l1 : Int32} (b24 : b ≤ 24) (e2 : (σ0.1 (208 + 1) 3).toInt = b) (h1 : l1.toInt = ρ) (bd : ∀ t, t < b → -2000000 ≤ (σ0.1 35 t).toInt ∧ (σ0.1 35 t).toInt ≤ 0 ∧ 0 ≤ ρ ∧ ρ ≤ 4000000 ∧ 0 ≤ xT σ0 t ∧ xT σ0 t ≤ 4000000) :
    ∀ (d fuel k : Nat) (σ : SG) (l2 : Int32), d < fuel → k + d = b → l2.toInt = k → (∀ k i, k ≠ 35 → σ.1 k i = σ0.1 k i) ∧ σ.2 = σ0.2 → (∀ t, t < b → (σ.1 35 t).toInt = if t < k ∧ ¬ σ0.1 143 t = 0 then (σ0.1 35 t).toInt - (ρ - xT σ0 t) else (σ0.1 35 t).toInt) → uOk (m_X0_changeRates_48 fuel σ l1 l2) (fun _ q => ((∀ k i, k ≠ 35 → q.1 k i = σ0.1 k i) ∧ q.2 = σ0.2) ∧ ∀ t, t < b → (q.1 35 t).toInt = if ¬ σ0.1 143 t = 0 then (σ0.1 35 t).toInt - (ρ - xT σ0 t) else (σ0.1 35 t).toInt) := by
  intro d
  induction d with
  | zero =>
    intro fuel k σ l2 hf hd h2 hF hI
    cases fuel with
    | zero => omega
    | succ fuel =>
      have e2' : (σ.1 (208 + 1) 3).toInt = b := by rw [hF.1 _ _ (by omega)]; exact e2
      show uOk (m_X0_changeRates_48_s _ σ l1 l2) _
      unfold m_X0_changeRates_48_s
      refine ok_ite (fun _ => ok_r ⟨hF, fun t ht => ?_⟩) (fun q => absurd (z_le.mpr (by rw [e2', h2]; omega)) q)
      rw [hI t ht]
      by_cases z : σ0.1 143 t = 0
      · rw [if_neg (fun y => y.2 z), if_neg (fun y => y z)]
      · rw [if_pos ⟨by omega, z⟩, if_pos z]
  | succ d ih =>
    intro fuel k σ l2 hf hd h2 hF hI
    cases fuel with
    | zero => omega
    | succ fuel =>
      have hk : k < b := by omega
      have e2' : (σ.1 (208 + 1) 3).toInt = b := by rw [hF.1 _ _ (by omega)]; exact e2
      have o143 : σ.1 143 k = σ0.1 143 k := hF.1 _ _ (by omega)
      have o37 : (σ.1 37 k).toInt = xT σ0 k := by rw [hF.1 _ _ (by omega)]; rfl
      have o35 : (σ.1 35 k).toInt = (σ0.1 35 k).toInt := by rw [hI k hk, if_neg (by omega)]
      have bk := bd k hk
      show uOk (m_X0_changeRates_48_s _ σ l1 l2) _
      unfold m_X0_changeRates_48_s m_X0_changeRates_85
      rw [z_nv h2]
      refine ok_ite (fun q => absurd (z_le.mp q) (by rw [e2', h2]; omega)) (fun _ => ok_i (by omega) (ok_ite (fun q => ok_l fun v19 e19 => ih fuel (k + 1) σ v19 (by omega) (by omega) (by rw [e19, z_add1 (by omega), h2]; rfl) hF (fun t ht => ?_)) (fun q => ok_i (by omega) (ok_i (by omega) (ok_i (by omega) (ok_l fun s15 e15 => ok_l fun v19 e19 => ih fuel (k + 1) s15 v19 (by omega) (by omega) (by rw [e19, z_add1 (by omega), h2]; rfl) ⟨fun k' i' y => ?_, ?_⟩ (fun t ht => ?_)))))))
      · rw [hI t ht]
        by_cases e : t = k
        · rw [o143] at q
          rw [e, if_neg (by omega), if_neg (fun y => y.2 q)]
        · by_cases z : t < k ∧ ¬ σ0.1 143 t = 0
          · rw [if_pos z, if_pos ⟨by omega, z.2⟩]
          · rw [if_neg z, if_neg (fun y => z ⟨by omega, y.2⟩)]
      · rw [e15, g_sI, if_neg (by omega)]; exact hF.1 k' i' y
      · rw [e15, g_sI2]; exact hF.2
      · rw [o143] at q
        rw [e15, g_sI]
        by_cases e : t = k
        · rw [if_pos ⟨rfl, e⟩, e, if_pos ⟨by omega, q⟩]
          exact z_subv o35 (z_subv h1 o37 (by omega) (by omega)) (by omega) (by omega)
        · rw [if_neg (fun y => e y.2), hI t ht]
          by_cases z : t < k ∧ ¬ σ0.1 143 t = 0
          · rw [if_pos z, if_pos ⟨by omega, z.2⟩]
          · rw [if_neg z, if_neg (fun y => z ⟨by omega, y.2⟩)]
theorem x_rates2 {a b : Nat} {ρ : Int} {σ0 : SG} {l1 : Int32} (a24 : a ≤ 24) (b24 : b ≤ 24) (e1 : (σ0.1 (208 + 0) 3).toInt = a) (e2 : (σ0.1 (208 + 1) 3).toInt = b) (h1 : l1.toInt = ρ) (bd : ∀ t, t < b → -2000000 ≤ (σ0.1 35 t).toInt ∧ (σ0.1 35 t).toInt ≤ 0 ∧ 0 ≤ ρ ∧ ρ ≤ 4000000 ∧ 0 ≤ xT σ0 t ∧ xT σ0 t ≤ 4000000) (bg : ∀ i, i < a → 0 ≤ (σ0.1 34 i).toInt ∧ (σ0.1 34 i).toInt ≤ 2000000 ∧ 0 ≤ ρ ∧ ρ ≤ 4000000 ∧ -1 ≤ xR σ0 i ∧ xR σ0 i ≤ 4000000) :
    ∀ (d fuel k : Nat) (σ : SG) (l2 : Int32), d < fuel → k + d = a → l2.toInt = k → (∀ k i, k ≠ 34 → σ.1 k i = σ0.1 k i) ∧ σ.2 = σ0.2 → (∀ i, i < a → (σ.1 34 i).toInt = if i < k ∧ ¬ σ0.1 36 i = -1 then (σ0.1 34 i).toInt + (ρ - xR σ0 i) else (σ0.1 34 i).toInt) → uOk (m_X0_changeRates_2 fuel σ l1 l2) (fun _ q => frH σ0 q ∧ (∀ i, i < a → (q.1 34 i).toInt = if ¬ σ0.1 36 i = -1 then (σ0.1 34 i).toInt + (ρ - xR σ0 i) else (σ0.1 34 i).toInt) ∧ ∀ t, t < b → (q.1 35 t).toInt = if ¬ σ0.1 143 t = 0 then (σ0.1 35 t).toInt - (ρ - xT σ0 t) else (σ0.1 35 t).toInt) := by
  intro d
  induction d with
  | zero =>
    intro fuel k σ l2 hf hd h2 hF hI
    cases fuel with
    | zero => omega
    | succ fuel =>
      have e1' : (σ.1 (208 + 0) 3).toInt = a := by rw [hF.1 _ _ (by omega)]; exact e1
      have e2' : (σ.1 (208 + 1) 3).toInt = b := by rw [hF.1 _ _ (by omega)]; exact e2
      have oT : ∀ t, xT σ t = xT σ0 t := fun t => by unfold xT; rw [hF.1 _ _ (by omega)]
      have o35 : ∀ t, σ.1 35 t = σ0.1 35 t := fun t => hF.1 _ _ (by omega)
      have o143 : ∀ t, σ.1 143 t = σ0.1 143 t := fun t => hF.1 _ _ (by omega)
      show uOk (m_X0_changeRates_2_s _ σ l1 l2) _
      unfold m_X0_changeRates_2_s
      refine ok_ite (fun _ => ?_) (fun q => absurd (z_le.mpr (by rw [e1', h2]; omega)) q)
      refine (x_rates48 b24 e2' h1 (fun t ht => by rw [o35, oT]; exact bd t ht) b FV 0 σ 0 (FV_big (by omega)) (by omega) rfl ⟨fun _ _ _ => rfl, rfl⟩ (fun t ht => by rw [if_neg (by omega)])).mono (fun _ q ⟨f1, f2⟩ => ⟨⟨fun k' i' y1 y2 => ?_, ?_⟩, fun i hi => ?_, fun t ht => ?_⟩)
      · rw [f1.1 _ _ y2]; exact hF.1 _ _ y1
      · rw [f1.2]; exact hF.2
      · rw [f1.1 _ _ (by omega), hI i hi]
        by_cases z : σ0.1 36 i = -1
        · rw [if_neg (fun y => y.2 z), if_neg (fun y => y z)]
        · rw [if_pos ⟨by omega, z⟩, if_pos z]
      · rw [f2 t ht, o143, o35, oT]
  | succ d ih =>
    intro fuel k σ l2 hf hd h2 hF hI
    cases fuel with
    | zero => omega
    | succ fuel =>
      have hk : k < a := by omega
      have e1' : (σ.1 (208 + 0) 3).toInt = a := by rw [hF.1 _ _ (by omega)]; exact e1
      have o36 : σ.1 36 k = σ0.1 36 k := hF.1 _ _ (by omega)
      have o34 : (σ.1 34 k).toInt = (σ0.1 34 k).toInt := by rw [hI k hk, if_neg (by omega)]
      have bk := bg k hk
      show uOk (m_X0_changeRates_2_s _ σ l1 l2) _
      unfold m_X0_changeRates_2_s m_X0_changeRates_40
      rw [z_nv h2]
      refine ok_ite (fun q => absurd (z_le.mp q) (by rw [e1', h2]; omega)) (fun _ => ok_i (by omega) (ok_ite (fun q => ok_l fun v17 e17 => ih fuel (k + 1) σ v17 (by omega) (by omega) (by rw [e17, z_add1 (by omega), h2]; rfl) hF (fun i hi => ?_)) (fun q => ok_i (by omega) (ok_i (by omega) (ok_i (by omega) (ok_l fun s7 e7 => ok_l fun v17 e17 => ih fuel (k + 1) s7 v17 (by omega) (by omega) (by rw [e17, z_add1 (by omega), h2]; rfl) ⟨fun k' i' y => ?_, ?_⟩ (fun i hi => ?_)))))))
      · rw [hI i hi]
        by_cases e : i = k
        · rw [o36] at q
          rw [e, if_neg (by omega), if_neg (fun y => y.2 q)]
        · by_cases z : i < k ∧ ¬ σ0.1 36 i = -1
          · rw [if_pos z, if_pos ⟨by omega, z.2⟩]
          · rw [if_neg z, if_neg (fun y => z ⟨by omega, y.2⟩)]
      · rw [e7, g_sI, if_neg (by omega)]; exact hF.1 k' i' y
      · rw [e7, g_sI2]; exact hF.2
      · rw [o36] at q
        rw [e7, g_sI]
        by_cases e : i = k
        · rw [if_pos ⟨rfl, e⟩, e, if_pos ⟨by omega, q⟩]
          have o36' : (σ.1 36 k).toInt = xR σ0 k := by rw [o36]; rfl
          exact z_addv o34 (z_subv h1 o36' (by omega) (by omega)) (by omega) (by omega)
        · rw [if_neg (fun y => e y.2), hI i hi]
          by_cases z : i < k ∧ ¬ σ0.1 36 i = -1
          · rw [if_pos z, if_pos ⟨by omega, z.2⟩]
          · rw [if_neg z, if_neg (fun y => z ⟨by omega, y.2⟩)]
theorem x_changeRates {a b giver tk : Nat} {c f : Nat → Nat → Int} {A B r s : Nat → Int} {σ : SG} {l1 : Int32} (hX : uXi a b c f A B r s) (hS : uXs a b c f A B r s σ) (hN : uNo a b c f B r s giver tk σ) (h1 : l1.toInt = xT σ tk) : uOk (m_X0_changeRates σ l1) (fun _ q => frH σ q ∧ ∃ r' s', uXi a b c f A B r' s' ∧ uXs a b c f A B r' s' q ∧ ∀ t i : Nat, t < b → i < a → (xd σ t ∨ t = tk) → xW σ t = i → r' i + s' t = c i t) := by
  obtain ⟨n1, n2, n3, n4, tk', K, cur, n5, ord, hD⟩ := hN
  obtain ⟨s1, s2, s3, s4, s5⟩ := hS
  have a24 := hX.1
  have b24 := hX.2.1
  have ft := (hD.fin hX n1)
  have d2 := hD.2.1
  have c9 := hX.2.2.2.2.2.2.2.2.1
  have c11 := hX.2.2.2.2.2.2.2.2.2.2
  have cb := hD.1
  have k1 : ((-1 : Int32)).toInt = -1 := rfl
  unfold m_X0_changeRates m_X0_changeRates_0
  refine (x_rates2 a24 b24 s1 s2 h1 (fun t ht => ?_) (fun i hi => ?_) a FV 0 σ 0 (FV_big (by omega)) (by omega) rfl ⟨fun _ _ _ => rfl, rfl⟩ (fun i hi => by rw [if_neg (by omega)])).mono (fun _ q ⟨f1, f2, f3⟩ => ⟨f1, fun i => (q.1 34 i).toInt, fun t => (q.1 35 t).toInt, ?_⟩)
  · have := hD.fin hX ht
    have := c9 t ht
    rw [(s5 t ht).1]
    omega
  · have := c11 i hi
    have := d2 i hi
    rw [(s4 i hi).1]
    omega
  · have er : ∀ i, i < a → (xR σ i = -1 ∧ (q.1 34 i).toInt = r i) ∨ (xR σ i ≠ -1 ∧ (q.1 34 i).toInt = r i + (xT σ tk - xR σ i)) := fun i hi => by
      have e := f2 i hi
      rw [(s4 i hi).1] at e
      by_cases z : σ.1 36 i = -1
      · rw [if_neg (fun y => y z)] at e
        exact Or.inl ⟨by unfold xR; rw [z]; rfl, e⟩
      · rw [if_pos z] at e
        exact Or.inr ⟨fun y => z (z_eq.mpr y), e⟩
    have es : ∀ t, t < b → (¬ xd σ t ∧ (q.1 35 t).toInt = s t) ∨ (xd σ t ∧ (q.1 35 t).toInt = s t - (xT σ tk - xT σ t)) := fun t ht => by
      have e := f3 t ht
      rw [(s5 t ht).1] at e
      by_cases z : σ.1 143 t = 0
      · rw [if_neg (fun y => y z)] at e
        exact Or.inl ⟨fun y => y z, e⟩
      · rw [if_pos z] at e
        exact Or.inr ⟨z, e⟩
    obtain ⟨y1, y2⟩ := hD.rates (r' := fun i => (q.1 34 i).toInt) (s' := fun t => (q.1 35 t).toInt) hX n1 n3 n2 n4 er es
    refine ⟨y1, ⟨?_, ?_, fun i j hi hj => ?_, fun i hi => ⟨rfl, ?_⟩, fun j hj => ⟨rfl, ?_⟩⟩, y2⟩
    · rw [f1.1 _ _ (by omega) (by omega)]; exact s1
    · rw [f1.1 _ _ (by omega) (by omega)]; exact s2
    · rw [f1.1 _ _ (by omega) (by omega), f1.1 (119 + i) _ (by omega) (by omega)]; exact s3 i j hi hj
    · rw [f1.1 _ _ (by omega) (by omega)]; exact (s4 i hi).2
    · rw [f1.1 _ _ (by omega) (by omega)]; exact (s5 j hj).2
