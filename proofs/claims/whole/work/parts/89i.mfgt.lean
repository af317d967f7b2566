/-! ===== the model's freight ===== -/
theorem uS_ups {M N s : Nat} {F G : Nat → Nat → Int} {w : Int} (hs : s < M) (h : ∀ k, k < M → uS (G k) N = uS (F k) N + (if k = s then w else 0)) : uS (fun i => uS (G i) N) M = uS (fun i => uS (F i) N) M + w := by
  have e : uS (fun i => uS (G i) N) M = uS (fun i => if i = s then uS (F i) N + w else uS (F i) N) M := uS_eq M (fun k hk => by
    rw [h k hk]
    by_cases z : k = s
    · rw [if_pos z, if_pos z]
    · rw [if_neg z, if_neg z, Int.add_zero])
  rw [e, uS_up (f := fun i => uS (F i) N), if_pos hs]
/-- the model between two ways -/
def uMF (M N x y : Nat) (p l q m A B : Nat → Int) (C g : Nat → Nat → Int) (cU : Int64) (σ0 σ : SG) : Prop := frC σ0 σ ∧ uSt M N x y p l q m C g (fun i => A i - uS (g i) N) σ ∧ (0 < M → ∀ j, j < N → (σ.1 18 j).toInt = B j - uS (fun i => g i j) M) ∧ (∃ u v D, uFi M N p q A B C g u v D) ∧ σ.2.1 0 38 = cU
theorem m_f56 {M N x y : Nat} {p l q m A B : Nat → Int} {C : Nat → Nat → Int} {cU : Int64} {base U : Int} {σ0 : SG} {l1 l2 : Int32} (h1 : l1.toInt = x) (h2 : l2.toInt = y) (hA : ∀ i, i < M → (0 < A i ↔ 0 ≤ p i)) (hB : ∀ j, j < N → (0 < B j ↔ 0 ≤ q j)) (bA : ∀ i, i < M → 0 ≤ A i ∧ A i ≤ 64) (bB : ∀ j, j < N → 0 ≤ B j ∧ B j ≤ 64) (uA1 : U ≤ uS A M) (uB1 : U ≤ uS B N) (u0 : 0 ≤ U ∧ U ≤ 1536) (hb : 0 ≤ base ∧ base ≤ 2000000) :
    ∀ (n fuel : Nat) (σ : SG) (g : Nat → Nat → Int) (l5 : Int64) (l7 : Int32), n < fuel → uMF M N x y p l q m A B C g cU σ0 σ → l7.toInt = U - uS (fun i => uS (g i) N) M → l7.toInt = n → l5.toInt = base + uCt M N C g → uOk (m_X12_freightOf_56 fuel σ l1 l2 l5 l7) (fun r s => frC σ0 s ∧ s.2.1 0 38 = cU ∧ ∃ V, uBest M N A B C U V ∧ r.toInt = base + V) := by
  have k24 : ((24 : Int32)).toInt = 24 := rfl
  have k0 : ((0 : Int32)).toInt = 0 := rfl
  intro n
  induction n using Nat.strongRecOn with
  | _ n ih =>
    intro fuel σ g l5 l7 hf hI e7 n7 e5
    cases fuel with
    | zero => omega
    | succ fuel =>
      obtain ⟨hF, hS, h18, ⟨u, v, D, hFi⟩, hc⟩ := hI
      show uOk (m_X12_freightOf_56_s _ σ l1 l2 l5 l7) _
      unfold m_X12_freightOf_56_s
      refine ok_ite (fun z => ok_r ⟨hF, hc, uCt M N C g, hFi.best hA hB ?_, e5⟩) (fun z => ?_)
      · rw [z_le, k0] at z; omega
      rw [z_le, k0] at z
      have hX := hFi.1
      refine ok_b (m_reachAll hX hS h1 h2) (fun _ s1 ⟨hR, ⟨ka, kb, hRI⟩, hSat⟩ => ?_)
      have hS1 := hS.R hR
      obtain ⟨F1, F2, F3, F4, F5, F6⟩ := id hFi
      -- somebody has units left
      obtain ⟨i0, hi0, z0⟩ : ∃ i, i < M ∧ 0 < A i - uS (g i) N := uS_pos (f := fun i => A i - uS (g i) N) M (by rw [uS_sub]; omega)
      obtain ⟨j0, hj0, y0⟩ : ∃ j, j < N ∧ 0 < B j - uS (fun i => g i j) M := uS_pos (f := fun j => B j - uS (fun i => g i j) M) N (by rw [uS_sub, ← uS_comm]; omega)
      have hDs := hRI.ds hX hA F2 hSat hi0 z0
      have M24 := hX.1
      have N24 := hX.2.1
      have h18' : ∀ j, j < N → (s1.1 18 j).toInt = B j - uS (fun i => g i j) M := fun j hj => by rw [hR.1 _ _ (by omega)]; exact h18 (by omega) j hj
      refine m_f73 (lb := fun j => B j - uS (fun i => g i j) M) hS1.2.1 h2 h18' ⟨j0, hj0, y0⟩ (fun cc last l8 l9 hl lo lmin h8 h9 => ?_) N FV 0 (-1) 0 (FV_big (by omega)) (by omega) rfl (Or.inl ⟨rfl, fun j hj => by omega⟩)
      have lo : 0 < B last - uS (fun i => g i last) M := lo
      have lmin : ∀ j, j < N → 0 < B j - uS (fun i => g i j) M → udB s1 last ≤ udB s1 j := lmin
      have cl := uS_nn (f := fun i => g i last) M (fun i hi => F2 i last hi hl)
      have lq : 0 ≤ q last := (hB last hl).mp (by omega)
      have lb64 := bB last hl
      obtain ⟨t1, t2, t3, t4⟩ := hS1.2.1
      obtain ⟨i1, hi1, q1, q2, q3, q4⟩ := hDs.2.2.2.2.2.2.1 last hl lq
      have d8 := hDs.2.2.2.2.2.2.2
      unfold m_X12_freightOf_73_s
      have h8b : (24 + l8).toInt = (24 + last : Nat) := by rw [z_addv k24 h8 (by omega) (by omega)]; omega
      rw [z_nv h2, z_nv h8, z_nv h8b]
      refine ok_i (by omega) (ok_ite (fun _ => ok_i (by omega) (ok_l fun v28 e28 => ok_i (by omega) (ok_l fun v31 e31 => ?_))) (fun z => absurd (z_le.mpr (by rw [t3, h9]; omega)) z))
      have h28 : v28.toInt = if B last - uS (fun i => g i last) M < l7.toInt then B last - uS (fun i => g i last) M else l7.toInt := by rw [e28]; exact z_minv (h18' last hl) rfl
      have h31 : v31.toInt = i1 := by rw [e31]; exact q1
      have w28 : 0 < v28.toInt ∧ v28.toInt ≤ B last - uS (fun i => g i last) M ∧ v28.toInt ≤ l7.toInt := by rw [h28]; split <;> omega
      have nng : 0 ≤ uS (fun i => uS (g i) N) M := uS_nn M (fun i hi => uS_nn N (fun j hj => F2 i j hi hj))
      refine m_f169 (i0 := i1) (W := v28.toInt) hX hDs (fun i _ => rfl) (fun j _ => rfl) (fun i j hi hj => (hS1.2.2.1 i j hi hj).2) (fun cc' src S w l9' l11 hs sp sf h11 hw w0 w1 hPS h0 => ?_) 230000000000000000000000000 FV i1 (fun _ => False) v28.toInt v28 v31 (by decide) (by have := d8 i1 hi1 q2; omega) hi1 q2 h31 rfl w28.1 (Int.le_refl _) (fun k hk => hk.elim) (Or.inr rfl)
      have las : 0 < A src - uS (g src) N := by
        rcases hDs.2.2.2.2.2.1 src hs sp with ⟨-, z⟩ | ⟨j, a1, a2, a3⟩
        · exact z
        · omega
      have h17 : (s1.1 17 src).toInt = A src - uS (g src) N := hS1.2.2.2 src hs
      have sA := bA src hs
      have rs := uS_nn (f := g src) N (fun j hj => F2 src j hs hj)
      unfold m_X12_freightOf_169_s
      rw [z_nv h11, z_nv h8, z_nv h8b]
      refine ok_i (by omega) (ok_ite (fun _ => ok_i (by omega) (ok_l fun v42 e42 => ?_)) (fun z => absurd (z_eq.mpr (show (s1.1 22 src).toInt = ((-1 : Int32)).toInt from sf)) z))
      have h42 : v42.toInt = if A src - uS (g src) N < w then A src - uS (g src) N else w := by rw [e42]; exact z_minv h17 hw
      have w42 : 0 < v42.toInt ∧ v42.toInt ≤ A src - uS (g src) N ∧ v42.toInt ≤ w := by rw [h42]; split <;> omega
      refine ok_i (by omega) (ok_i (by omega) (ok_l fun s46 e46 => ok_i (by omega) (ok_i (by omega) (ok_l fun s50 e50 => ok_l fun v52 e52 => ok_i (by omega) (ok_l fun v55 e55 => ok_i (by omega) (ok_l fun v58 e58 => ?_))))))
      have o22 : ∀ i, s50.1 22 i = s1.1 22 i := fun i => by rw [e50, g_sI, if_neg (by omega), e46, g_sI, if_neg (by omega)]
      have o19 : ∀ i, s50.1 19 i = s1.1 19 i := fun i => by rw [e50, g_sI, if_neg (by omega), e46, g_sI, if_neg (by omega)]
      have o2 : s50.2 = s1.2 := by rw [e50, g_sI2, e46, g_sI2]
      have h58 : v58.toInt = i1 := by rw [e58, o22]; exact q1
      have hx : (24 * v58 + l8).toInt = (24 * i1 + last : Nat) := by rw [z_addv (z_mulv k24 h58 (by omega) (by omega)) h8 (by omega) (by omega)]; omega
      rw [z_nv hx]
      have g19 : (s50.1 19 (24 * i1 + last)).toInt = g i1 last := by rw [o19]; exact (hS1.2.2.1 i1 last hi1 hl).2
      have rows64 : ∀ i, i < M → uS (g i) N ≤ 64 := fun i hi => by have := F3 i hi; have := bA i hi; omega
      have gb : 0 ≤ g i1 last ∧ g i1 last ≤ 64 := ⟨F2 i1 last hi1 hl, by have := uS_ge N last (fun j hj => F2 i1 j hi1 hj) hl; have := rows64 i1 hi1; omega⟩
      have dl := hDs.2.1 last hl lq
      have vl := hX.2.2.2.2.1 last hl
      have c6 := hX.2.2.2.2.2.1 i1 last hi1 hl q2 lq
      have tb := uCt_b (b := 2000000) F2 hX.2.2.1
      have pm1 : 0 ≤ v42.toInt * udB s1 last := Int.mul_nonneg (by omega) (by omega)
      have pm2 : v42.toInt * udB s1 last ≤ 1536 * 2000000 := Int.mul_le_mul (by omega) dl.2 (by omega) (by omega)
      have h52 : v52.toInt = l7.toInt - v42.toInt := by rw [e52]; exact z_sub (by omega) (by omega)
      have h55 : v55.toInt = base + uCt M N C g + v42.toInt * udB s1 last := by
        rw [e55]
        refine j_add e5 (j_mul (by rw [Int32.toInt_toInt64]) (by rw [o2]; rfl) (by omega) (by omega)) (by omega) (by omega)
      refine ok_i (by omega) (ok_i (by omega) (ok_l fun s62 e62 => ?_))
      refine m_f322 (σ := s50) (S := S) (src := src) (last := last) (w := v42.toInt) (ρ := udB s1 last - v last) hX hDs (fun i _ => by rw [o22]; rfl) (fun j _ => by rw [o22]; rfl) rows64 (fun k hk => ?_) sf rfl w42.1 (by omega) (fun s gc f cc2 ag => ?_) 230000000000000000000000000 FV i1 s62 (uG g i1 last v42.toInt) v58 (by decide) (by have := d8 i1 hi1 q2; omega) hi1 q2 h58 h0 (by omega) (by rw [e62]; exact fr1.rf.sI (by omega)) (fun i j hi hj => ?_) (uAg.start F2 (by omega) hi1 hl ⟨q2, lq, q3, by omega, by omega⟩)
      · obtain ⟨a, j, b1, b2, b3, b4⟩ := hPS k hk
        exact ⟨a, j, b1, b2, by omega, b4⟩
      · obtain ⟨⟨u', v', fi⟩, ct⟩ := hFi.aug hA hB hDs.1 hDs.2.1 hDs.2.2.1 hDs.2.2.2.1 hDs.2.2.2.2.1 hl (fun j hj z => lmin j hj (by omega)) hs w42.1 w42.2.1 (by omega) ag
        have tot := uS_ups hs ag.1
        have f50 : frC s1 s50 := by rw [e50, e46]; exact (frC.rf.sI (by omega)).sI (by omega)
        have fs : frC s1 s := f50.tr ⟨fun k i z => f.1 k i (by omega), fun k i _ => by rw [f.2], by rw [f.2]⟩
        have fall : frC σ0 s := (hF.tr hR.C).tr fs
        have s2 : s.2 = s1.2 := f.2.trans o2
        refine ih (l7.toInt - v42.toInt).toNat (by omega) fuel s gc v55 v52 (by omega) ⟨fall, ⟨hS1.1.C fs, hS1.2.1.C fs, fun i j hi hj => ⟨?_, cc2 i j hi hj⟩, fun i hi => ?_⟩, fun _ j hj => ?_, ⟨u', v', _, fi⟩, ?_⟩ (by omega) (by omega) (by omega)
        · rw [s2]; exact (hS1.2.2.1 i j hi hj).1
        · show (s.1 17 i).toInt = A i - uS (gc i) N
          rw [f.1 _ _ (by omega), e50, g_sI, if_neg (by omega), e46, g_sI, ag.1 i hi]
          by_cases z : i = src
          · rw [if_pos ⟨rfl, z⟩, if_pos z, z, z_sub (by omega) (by omega), h17]; omega
          · rw [if_neg (fun y => z y.2), if_neg z, Int.add_zero]; exact hS1.2.2.2 i hi
        · rw [f.1 _ _ (by omega), e50, g_sI, ag.2.1 j hj]
          have o18 : (s46.1 18 j).toInt = B j - uS (fun i => g i j) M := by rw [e46, g_sI, if_neg (by omega)]; exact h18' j hj
          by_cases z : j = last
          · rw [z] at o18
            rw [if_pos ⟨rfl, z⟩, if_pos z, z, z_sub (by omega) (by omega), o18]; omega
          · rw [if_neg (fun y => z y.2), if_neg z, Int.add_zero]; exact o18
        · rw [s2, hR.2.1 _ _ (by omega)]; exact hc
      · rw [e62, g_sI]
        unfold uG
        by_cases z : i = i1 ∧ j = last
        · rw [if_pos ⟨rfl, by rw [z.1, z.2]⟩, if_pos z, z.1, z.2]
          exact z_addv g19 rfl (by omega) (by omega)
        · rw [if_neg (by omega), if_neg z, o19]; exact (hS1.2.2.1 i j hi hj).2
theorem uC_ok {M N : Nat} {p l q m : Nat → Int} {K : Nat → Int} (hK : KB K) (hp : rowS p l M) (hq : rowS q m N) : ∀ i j, i < M → j < N → 0 ≤ uC (K 5) (K 6) p l q m i j ∧ uC (K 5) (K 6) p l q m i j ≤ 2000000 := fun i j hi hj => by
  have := uC_b (a := K 5) (b := K 6) hp hq hi hj (hK 5 (by omega)) (hK 6 (by omega))
  omega
theorem m_freightOf {x y M N : Nat} {p l q m : Nat → Int} {K : Nat → Int} {l1 l2 : Int32} {σ : SG} (hK : KB K) (hp : rowS p l M) (hq : rowS q m N) (h1 : l1.toInt = x) (h2 : l2.toInt = y) (hR0 : MRow x p l M σ) (hT0 : MRow y q m N σ) (hK0 : uKM K σ) : uOk (m_X12_freightOf σ l1 l2) (fun r s => frM [10] σ s ∧ (s.2.1 0 38).toInt = umin (uS (uA p l) M) (uS (uA q m) N) ∧ ∃ V, uBest M N (uA p l) (uA q m) (uC (K 5) (K 6) p l q m) (umin (uS (uA p l) M) (uS (uA q m) N)) V ∧ r.toInt = K 7 * uab (uS (uA p l) M - uS (uA q m) N) + V) := by
  have M24 := hp.1
  have N24 := hq.1
  have b1 := hp.un M (by omega)
  have b2 := hq.un N (by omega)
  unfold m_X12_freightOf m_X12_freightOf_0
  refine ok_b (m_unitsOf hR0 hp h1) (fun v1 s ⟨es, e1⟩ => ?_)
  rw [es]
  refine ok_b (m_unitsOf hT0 hq h2) (fun v4 s' ⟨es', e4⟩ => ?_)
  rw [es']
  refine ok_l fun v7 e7 => ok_l fun s9 e9 => ok_g rfl (ok_l fun v12 e12 => ok_l fun v14 e14 => ?_)
  have h7 : v7.toInt = umin (uS (uA p l) M) (uS (uA q m) N) := by
    rw [e7, z_minv e4 e1]
    unfold umin
    split <;> split <;> omega
  have um := umin_s (uS (uA p l) M) (uS (uA q m) N)
  have f9 : frM [10] σ s9 := by rw [e9]; exact frM.rf.sJ (by decide)
  have f91 : s9.1 = σ.1 := by rw [e9, g_sJ1]
  have h12 : v12.toInt = uab (uS (uA p l) M - uS (uA q m) N) := by rw [e12]; exact z_abs (z_subv e1 e4 (by omega) (by omega)) (by omega)
  have ub : 0 ≤ uab (uS (uA p l) M - uS (uA q m) N) ∧ uab (uS (uA p l) M - uS (uA q m) N) ≤ 1536 := by unfold uab; split <;> omega
  have k7 := hK 7 (by omega)
  have p7 : (s9.1 4 (7 : Int32).toNatClampNeg).toInt = K 7 := by show (s9.1 4 7).toInt = K 7; rw [f91]; exact hK0 7 (by omega)
  have pm1 : 0 ≤ K 7 * uab (uS (uA p l) M - uS (uA q m) N) := Int.mul_nonneg (by omega) (by omega)
  have pm2 : K 7 * uab (uS (uA p l) M - uS (uA q m) N) ≤ 1000 * 1536 := Int.mul_le_mul (by omega) ub.2 (by omega) (by omega)
  have h14 : v14.toInt = K 7 * uab (uS (uA p l) M - uS (uA q m) N) := by
    rw [e14]
    exact j_mul (by rw [Int32.toInt_toInt64]; exact p7) (by rw [Int32.toInt_toInt64]; exact h12) (by omega) (by omega)
  have hK9 : uKM K s9 := fun k hk => by rw [f91]; exact hK0 k hk
  have hR9 := hR0.fr f9 (by decide)
  have hT9 := hT0.fr f9 (by decide)
  have c9 : (s9.2.1 0 38).toInt = v7.toInt := by rw [e9, g_sJ, if_pos ⟨rfl, rfl⟩, Int32.toInt_toInt64]
  refine ok_b (m_lay hK hp hq h1 h2 hR9 hT9 hK9) (fun _ s17 ⟨f17, ly1, ly2, ly3⟩ => ok_l fun v19 e19 => ?_)
  have c17 : s17.2.1 0 38 = s9.2.1 0 38 := f17.2.1 0 38 (by omega)
  have h19 : v19.toInt = v7.toInt := by
    rw [e19, c17, e9, g_sJ, if_pos ⟨rfl, rfl⟩, Int32.toInt32_toInt64]
  have zero : ∀ i, uS (fun _ : Nat => (0 : Int)) i = 0 := uS_zero
  refine (m_f56 (A := uA p l) (B := uA q m) (C := uC (K 5) (K 6) p l q m) (cU := s9.2.1 0 38) (base := K 7 * uab (uS (uA p l) M - uS (uA q m) N)) (U := umin (uS (uA p l) M) (uS (uA q m) N)) (σ0 := s9) (M := M) (N := N) (x := x) (y := y) (p := p) (l := l) (q := q) (m := m) h1 h2 (fun i hi => (hp.ua hi).2.2) (fun j hj => (hq.ua hj).2.2) (fun i hi => ⟨(hp.ua hi).1, (hp.ua hi).2.1⟩) (fun j hj => ⟨(hq.ua hj).1, (hq.ua hj).2.1⟩) (by omega) (by omega) (by omega) (by omega) v19.toInt.toNat FV s17 (fun _ _ => 0) v14 v19 (FV_big (by omega)) ⟨f17, ⟨hR9.C f17, hT9.C f17, fun i j hi hj => ly3 i j hi hj (Or.inl hi), fun i hi => ?_⟩, fun hM0 j hj => ?_, ⟨fun _ => 0, fun _ => 0, 0, ⟨M24, N24, uC_ok hK hp hq, fun i _ => by show (0 : Int) ≤ 0 ∧ (0 : Int) ≤ 2000000; omega, fun j _ => by show (0 : Int) ≤ 0 ∧ (0 : Int) ≤ 2000000; omega, fun i j hi hj _ _ => ?_, fun i j _ _ z => absurd z (by show ¬ (0 : Int) < 0; omega), fun i hi z => ?_⟩, fun _ _ _ _ => Int.le_refl _, fun i hi => ?_, fun j hj => ?_, fun j _ _ => Int.le_refl _, fun j _ z => Int.le_refl _⟩, c17⟩ ?_ (by omega) ?_).mono (fun r s ⟨a1, a2, V, a3, a4⟩ => ⟨f9.tr a1.M, by rw [a2, c9, h7], V, a3, a4⟩)
  · show (s17.1 17 i).toInt = uA p l i - uS (fun _ => 0) N
    rw [uS_zero, ly1 i hi]; omega
  · show (s17.1 18 j).toInt = uA q m j - uS (fun _ => 0) M
    rw [uS_zero, ly2 j hj (Or.inl hM0)]; omega
  · show (0 : Int) - 0 ≤ _
    have := (uC_ok hK hp hq i j hi hj).1
    omega
  · have z : 0 < uA p l i - uS (fun _ => 0) N := z
    rw [uS_zero] at z
    exact ⟨rfl, (hp.ua hi).2.2.mp (by omega)⟩
  · show uS (fun _ => 0) N ≤ _
    rw [uS_zero]; exact (hp.ua hi).1
  · show uS (fun _ => 0) M ≤ _
    rw [uS_zero]; exact (hq.ua hj).1
  · rw [h19, h7]
    have : uS (fun i => uS (fun _ : Nat => (0 : Int)) N) M = 0 := by rw [uS_eq (g := fun _ => 0) M (fun _ _ => uS_zero N), uS_zero]
    omega
  · rw [h14]
    have : uCt M N (uC (K 5) (K 6) p l q m) (fun _ _ => 0) = 0 := by
      unfold uCt
      rw [uS_eq (g := fun _ => 0) M (fun i _ => by rw [uS_eq (g := fun _ => 0) N (fun j _ => Int.mul_zero _), uS_zero]), uS_zero]
    omega
