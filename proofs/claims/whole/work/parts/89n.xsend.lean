/-! ===== units go by the way that was found ===== -/
theorem x_amt33 {a b giver tk' K i0 : Nat} {c f : Nat → Nat → Int} {B r s : Nat → Int} {cur W0 : Int} {ord : Nat → Nat} {σ : SG} (a24 : a ≤ 24) (b24 : b ≤ 24) (hf' : ∀ i j, i < a → j < b → (σ.1 (119 + i) j).toInt = f i j) (hD : uDk a b c f B r s giver tk' a K cur ord (xR σ) (xV σ) (xT σ) (xW σ) (xd σ)) :
    ∀ (d fuel i hop : Nat) (S : Nat → Prop) (w : Int) (l3 l4 l5 : Int32), d < fuel → ord i ≤ d → ord i + hop ≤ 23 → i < a → xR σ i ≠ -1 → l3.toInt = w → l4.toInt = i → l5.toInt = hop → 0 < w → w ≤ W0 → uPS a b f (xV σ) (xW σ) w S i → (S i0 ∨ i0 = i) → uOk (m_X0_amountOnPath_33 fuel σ l3 l4 l5) (fun v q => q = σ ∧ 0 < v.toInt ∧ v.toInt ≤ W0 ∧ ∃ S, uPS a b f (xV σ) (xW σ) v.toInt S giver ∧ (S i0 ∨ i0 = giver)) := by
  have k24 : ((24 : Int32)).toInt = 24 := rfl
  obtain ⟨d1, d2, d3, d4, d5, d6, d7, d8⟩ := hD
  intro d
  induction d with
  | zero =>
    intro fuel i hop S w l3 l4 l5 hf ho hh hi hR h3 h4 h5 w0 w1 hS h0
    cases fuel with
    | zero => omega
    | succ fuel =>
      rcases d3 i hi hR with ⟨z1, z2, z3⟩ | ⟨t, b1, b2, b3, b4, b5, i', b6, b7, b8⟩
      · show uOk (m_X0_amountOnPath_33_s _ σ l3 l4 l5) _
        unfold m_X0_amountOnPath_33_s
        rw [z_nv h4]
        refine ok_ite (fun q => absurd (z_le.mp q) (by rw [k24, h5]; omega)) (fun _ => ok_i (by omega) (ok_ite (fun q => ok_r ⟨rfl, by omega, by omega, S, ?_, ?_⟩) (fun q => absurd (z_eq.mpr (show (σ.1 38 i).toInt = ((-1 : Int32)).toInt from z1)) q)))
        · rw [h3, ← z2]; exact hS
        · rw [← z2]; exact h0
      · omega
  | succ d ih =>
    intro fuel i hop S w l3 l4 l5 hf ho hh hi hR h3 h4 h5 w0 w1 hS h0
    cases fuel with
    | zero => omega
    | succ fuel =>
      show uOk (m_X0_amountOnPath_33_s _ σ l3 l4 l5) _
      unfold m_X0_amountOnPath_33_s
      rw [z_nv h4]
      rcases d3 i hi hR with ⟨z1, z2, z3⟩ | ⟨t, b1, b2, b3, b4, b5, i', b6, b7, b8⟩
      · refine ok_ite (fun q => absurd (z_le.mp q) (by rw [k24, h5]; omega)) (fun _ => ok_i (by omega) (ok_ite (fun q => ok_r ⟨rfl, by omega, by omega, S, ?_, ?_⟩) (fun q => absurd (z_eq.mpr (show (σ.1 38 i).toInt = ((-1 : Int32)).toInt from z1)) q)))
        · rw [h3, ← z2]; exact hS
        · rw [← z2]; exact h0
      · have ev : (σ.1 38 i).toInt = t := b2
        rw [z_nv ev]
        refine ok_ite (fun q => absurd (z_le.mp q) (by rw [k24, h5]; omega)) (fun _ => ok_i (by omega) (ok_ite (fun q => ?_) (fun q => ok_i (by omega) (ok_i (by omega) (ok_i (by omega) (ok_l fun v15 e15 => ok_i (by omega) (ok_i (by omega) (ok_l fun v19 e19 => ok_l fun v21 e21 => ?_))))))))
        · rw [q] at ev
          have ev : (-1 : Int) = t := ev
          omega
        · have h15 : v15.toInt = if f i t < w then f i t else w := by rw [e15]; exact z_minv (hf' i t hi b1) h3
          have w2 : 0 < (if f i t < w then f i t else w) ∧ (if f i t < w then f i t else w) ≤ w ∧ (if f i t < w then f i t else w) ≤ f i t := by split <;> omega
          obtain ⟨i2, c1, c2, c3, -⟩ := d5 t b1
          have e2 : i2 = i' := by omega
          rw [e2] at c3
          refine ih fuel i' (hop + 1) (fun k => S k ∨ k = i) _ v15 v19 v21 (by omega) (by omega) (by omega) b6 c3 h15 (by rw [e19]; exact b7) (by rw [e21, z_add1 (by omega), h5]; rfl) w2.1 (by omega) (fun k hk => ?_) ?_
          · rcases hk with hk | hk
            · obtain ⟨a0, j1, a1, a2, a3, i1, a4, a5, a6⟩ := hS k hk
              refine ⟨a0, j1, a1, a2, by omega, i1, a4, a5, Or.inl ?_⟩
              rcases a6 with a6 | a6
              · exact Or.inl a6
              · exact Or.inr a6
            · rw [hk]
              exact ⟨hi, t, b1, b2, by omega, i', b6, b7, Or.inr rfl⟩
          · rcases h0 with h0 | h0
            · exact Or.inl (Or.inl h0)
            · exact Or.inl (Or.inr h0)
theorem x_amount {a b giver tk : Nat} {c f : Nat → Nat → Int} {A B r s : Nat → Int} {σ σ1 : SG} {l1 l2 : Int32} (a24 : a ≤ 24) (b24 : b ≤ 24) (hN : uNo a b c f B r s giver tk σ) (hH : frH σ σ1) (hf' : ∀ i j, i < a → j < b → (σ.1 (119 + i) j).toInt = f i j) (h1 : l1.toInt = giver) (h2 : l2.toInt = tk) (hL : (σ.1 (32 + 0) giver).toInt = A giver - uS (f giver) b) (hL' : (σ.1 (32 + 1) tk).toInt = B tk - uS (fun i => f i tk) a) (l0 : 0 < A giver - uS (f giver) b) : uOk (m_X0_amountOnPath σ1 l1 l2) (fun v q => q = σ1 ∧ 0 < v.toInt ∧ v.toInt ≤ A giver - uS (f giver) b ∧ v.toInt ≤ B tk - uS (fun i => f i tk) a ∧ ∃ S i0, i0 < a ∧ xW σ tk = i0 ∧ uPS a b f (xV σ) (xW σ) v.toInt S giver ∧ (S i0 ∨ i0 = giver)) := by
  obtain ⟨n1, n2, n3, n4, tk', K, cur, n5, ord, hD⟩ := hN
  obtain ⟨i0, c1, c2, c3, c4, c5⟩ := hD.2.2.2.2.1 tk n1
  have c6 := hD.2.1 i0 c1
  have gi := hD.2.2.2.1.1
  have oV : xV σ1 = xV σ := funext fun i => by unfold xV; rw [hH.1 _ _ (by omega) (by omega)]
  have oW : xW σ1 = xW σ := funext fun i => by unfold xW; rw [hH.1 _ _ (by omega) (by omega)]
  have oR : xR σ1 = xR σ := funext fun i => by unfold xR; rw [hH.1 _ _ (by omega) (by omega)]
  have oT : xT σ1 = xT σ := funext fun i => by unfold xT; rw [hH.1 _ _ (by omega) (by omega)]
  have od : xd σ1 = xd σ := funext fun i => by unfold xd; rw [hH.1 _ _ (by omega) (by omega)]
  have hL1 : (σ1.1 (32 + 0) giver).toInt = A giver - uS (f giver) b := by rw [hH.1 _ _ (by omega) (by omega)]; exact hL
  have hL2 : (σ1.1 (32 + 1) tk).toInt = B tk - uS (fun i => f i tk) a := by rw [hH.1 _ _ (by omega) (by omega)]; exact hL'
  unfold m_X0_amountOnPath m_X0_amountOnPath_0
  rw [z_nv h1, z_nv h2]
  refine ok_i (by omega) (ok_i (by omega) (ok_l fun v3 e3 => ok_i (by omega) (ok_l fun v6 e6 => ?_)))
  have h3 : v3.toInt = if B tk - uS (fun i => f i tk) a < A giver - uS (f giver) b then B tk - uS (fun i => f i tk) a else A giver - uS (f giver) b := by rw [e3]; exact z_minv hL2 hL1
  have w3 : 0 < v3.toInt ∧ v3.toInt ≤ A giver - uS (f giver) b ∧ v3.toInt ≤ B tk - uS (fun i => f i tk) a := by rw [h3]; split <;> omega
  refine (x_amt33 (W0 := v3.toInt) (i0 := i0) (f := f) (c := c) (B := B) (r := r) (s := s) (tk' := tk') (K := K) (cur := cur) (ord := ord) a24 b24 (fun i j hi hj => by rw [hH.1 _ _ (by omega) (by omega)]; exact hf' i j hi hj) (by rw [oR, oV, oT, oW, od]; exact hD) 24 FV i0 0 (fun _ => False) v3.toInt v3 v6 0 (FV_big (by omega)) (by omega) (by omega) c1 (by rw [oR]; exact c3) rfl (by rw [e6]; have : (σ1.1 39 tk).toInt = xW σ1 tk := rfl; rw [this, oW]; exact c2) rfl w3.1 (Int.le_refl _) (fun k hk => hk.elim) (Or.inr rfl)).mono (fun v q ⟨a1, a2, a3, S, a4, a5⟩ => ⟨a1, a2, by omega, by omega, S, i0, c1, c2, by rw [oV, oW] at a4; exact a4, a5⟩)
theorem x_send50 {a b giver tk tk' K : Nat} {c f : Nat → Nat → Int} {B r s r' s' : Nat → Int} {cur w : Int} {ord : Nat → Nat} {S : Nat → Prop} {V T W R : Nat → Int} {dn : Nat → Prop} {σ : SG} {l3 : Int32} (a24 : a ≤ 24) (b24 : b ≤ 24) (hD : uDk a b c f B r s giver tk' a K cur ord R V T W dn) (hV : ∀ i, i < a → (σ.1 38 i).toInt = V i) (hW : ∀ j, j < b → (σ.1 39 j).toInt = W j) (hti : ∀ t i : Nat, t < b → i < a → (dn t ∨ t = tk) → W t = i → r' i + s' t = c i t) (hr : ∀ i, i < a → uS (f i) b ≤ 64) (hS : uPS a b f V W w S giver) (hg : V giver = -1) (h3 : l3.toInt = w) (w0 : 0 < w) (w1 : w ≤ 64) :
    ∀ (d fuel i hop : Nat) (q : SG) (gc : Nat → Nat → Int) (l4 l5 : Int32), d < fuel → ord i ≤ d → ord i + hop ≤ 23 → i < a → R i ≠ -1 → l4.toInt = i → l5.toInt = hop → (S i ∨ i = giver) → fr1 119 143 σ q → (∀ i j, i < a → j < b → (q.1 (119 + i) j).toInt = gc i j) → uAg a b f (fun i j => r' i + s' j = c i j) (fun i => (ord i : Int)) w tk i gc → uOk (m_X0_send_50 fuel q l3 l4 l5) (fun _ z => fr1 119 143 σ z ∧ ∃ gc, (∀ i j, i < a → j < b → (z.1 (119 + i) j).toInt = gc i j) ∧ uAg a b f (fun i j => r' i + s' j = c i j) (fun i => (ord i : Int)) w tk giver gc) := by
  have k24 : ((24 : Int32)).toInt = 24 := rfl
  obtain ⟨d1, d2, d3, d4, d5, d6, d7, d8⟩ := hD
  intro d
  induction d with
  | zero =>
    intro fuel i hop q gc l4 l5 hf ho hh hi hR h4 h5 hSi hF hc hA
    cases fuel with
    | zero => omega
    | succ fuel =>
      rcases d3 i hi hR with ⟨z1, z2, z3⟩ | ⟨t, b1, b2, b3, b4, b5, i', b6, b7, b8⟩
      · have e38 : (q.1 38 i).toInt = V i := by rw [hF.1 _ _ (by omega)]; exact hV i hi
        show uOk (m_X0_send_50_s _ q l3 l4 l5) _
        unfold m_X0_send_50_s
        rw [z_nv h4]
        refine ok_ite (fun y => absurd (z_le.mp y) (by rw [k24, h5]; omega)) (fun _ => ok_i (by omega) (ok_ite (fun _ => ok_r ⟨hF, gc, hc, by rw [← z2]; exact hA⟩) (fun y => absurd (z_eq.mpr (by rw [e38, z1]; rfl)) y)))
      · omega
  | succ d ih =>
    intro fuel i hop q gc l4 l5 hf ho hh hi hR h4 h5 hSi hF hc hA
    cases fuel with
    | zero => omega
    | succ fuel =>
      have e38 : (q.1 38 i).toInt = V i := by rw [hF.1 _ _ (by omega)]; exact hV i hi
      show uOk (m_X0_send_50_s _ q l3 l4 l5) _
      unfold m_X0_send_50_s
      rw [z_nv h4]
      rcases d3 i hi hR with ⟨z1, z2, z3⟩ | ⟨t, b1, b2, b3, b4, b5, i', b6, b7, b8⟩
      · refine ok_ite (fun y => absurd (z_le.mp y) (by rw [k24, h5]; omega)) (fun _ => ok_i (by omega) (ok_ite (fun _ => ok_r ⟨hF, gc, hc, by rw [← z2]; exact hA⟩) (fun y => absurd (z_eq.mpr (by rw [e38, z1]; rfl)) y)))
      · have ev : (q.1 38 i).toInt = t := by rw [e38]; exact b2
        obtain ⟨i2, c1, c2, c3, -⟩ := d5 t b1
        have e2 : i2 = i' := by omega
        rw [e2] at c3
        have sw : w ≤ f i t ∧ (S i' ∨ i' = giver) := by
          rcases hSi with y | y
          · obtain ⟨-, j1, a1, a2, a3, i1, a4, a5, a6⟩ := hS i y
            have ej : j1 = t := by omega
            rw [ej] at a3 a5
            have ei : i1 = i' := by omega
            rw [ei] at a6
            exact ⟨a3, a6⟩
          · rw [y] at b2
            omega
        have ne : i' ≠ i := fun e => by rw [e] at b8; omega
        obtain ⟨A1, A2, A3, A4, A5⟩ := id hA
        have bnd : ∀ k j, k < a → j < b → 0 ≤ gc k j ∧ gc k j ≤ 1600 := fun k j hk hj => by
          have y1 := uS_ge b j (fun j hj => A3 k j hk hj) hj
          have y2 := hr k hk
          have y3 := A1 k hk
          have y4 := A3 k j hk hj
          split at y3 <;> omega
        have lo := A4 i t hi b1 (Int.le_refl _)
        have n1 := bnd i t hi b1
        have n2 := bnd i' t b6 b1
        refine ok_ite (fun y => absurd (z_le.mp y) (by rw [k24, h5]; omega)) (fun _ => ok_i (by omega) (ok_ite (fun y => ?_) (fun y => ok_i (by omega) (ok_l fun v22 e22 => ?_))))
        · rw [y] at ev
          have ev : (-1 : Int) = t := ev
          omega
        · have h22 : v22.toInt = t := by rw [e22]; exact ev
          rw [z_nv h22]
          refine ok_i (by omega) (ok_i (by omega) (ok_i (by omega) (ok_l fun s28 e28 => ok_i (by omega) (ok_l fun v31 e31 => ?_))))
          have h31 : v31.toInt = i' := by rw [e31, e28, g_sI, if_neg (by omega), hF.1 _ _ (by omega), hW t b1]; exact b7
          rw [z_nv h31]
          refine ok_i (by omega) (ok_i (by omega) (ok_i (by omega) (ok_l fun s37 e37 => ok_l fun v39 e39 => ih fuel i' (hop + 1) s37 (uG (uG gc i t (-w)) i' t w) v31 v39 (by omega) (by omega) (by omega) b6 c3 h31 (by rw [e39, z_add1 (by omega), h5]; rfl) sw.2 ?_ (fun k j hk hj => ?_) (uAg.step hA (by omega) hi b1 b6 (by show (ord i' : Int) < ord i; omega) sw.1 (hti t i' b1 b6 (Or.inl b3) b7)))))
          · rw [e37, e28]; exact (hF.sI (by omega)).sI (by omega)
          · have o := hc k j hk hj
            rw [e37, g_sI]
            unfold uG
            by_cases e : k = i' ∧ j = t
            · rw [if_pos ⟨by rw [e.1], e.2⟩, if_pos e, if_neg (fun y => ne (e.1.symm.trans y.1)), e.1, e.2]
              have o2 : (s28.1 (119 + i') t).toInt = gc i' t := by rw [e28, g_sI, if_neg (by omega)]; exact hc i' t b6 b1
              exact z_addv o2 h3 (by omega) (by omega)
            · rw [if_neg (by omega), if_neg e, e28, g_sI]
              by_cases y : k = i ∧ j = t
              · rw [if_pos ⟨by rw [y.1], y.2⟩, if_pos y, y.1, y.2]
                rw [z_subv (hc i t hi b1) h3 (by omega) (by omega)]; omega
              · rw [if_neg (by omega), if_neg y]; exact o
theorem x_send {a b giver tk i0 : Nat} {c f : Nat → Nat → Int} {A B r s r' s' : Nat → Int} {S : Nat → Prop} {σ σ1 : SG} {l1 l2 l3 : Int32} (hX : uXi a b c f A B r' s') (hS1 : uXs a b c f A B r' s' σ1) (hN : uNo a b c f B r s giver tk σ) (hH : frH σ σ1) (hti : ∀ t i : Nat, t < b → i < a → (xd σ t ∨ t = tk) → xW σ t = i → r' i + s' t = c i t) (h1 : l1.toInt = giver) (h2 : l2.toInt = tk) (w0 : 0 < l3.toInt) (w1 : l3.toInt ≤ A giver - uS (f giver) b) (w2 : l3.toInt ≤ B tk - uS (fun i => f i tk) a) (hi0 : i0 < a) (hW0 : xW σ tk = i0) (hPS : uPS a b f (xV σ) (xW σ) l3.toInt S giver) (h0 : S i0 ∨ i0 = giver) :
    uOk (m_X0_send σ1 l1 l2 l3) (fun _ q => frQ σ1 q ∧ ∃ f', uXi a b c f' A B r' s' ∧ uXs a b c f' A B r' s' q ∧ ∀ k, k < a → uS (f' k) b = uS (f k) b + (if k = giver then l3.toInt else 0)) := by
  obtain ⟨n1, n2, n3, n4, tk', K, cur, n5, ord, hD⟩ := hN
  obtain ⟨s1, s2, s3, s4, s5⟩ := id hS1
  obtain ⟨x1, x2, x3, x4, x5, x6, x7, x8, x9, x10, x11⟩ := id hX
  have gi := hD.2.2.2.1.1
  obtain ⟨i2, c1, c2, c3, c4, c5⟩ := hD.2.2.2.2.1 tk n1
  have ei : i2 = i0 := by omega
  rw [ei] at c3
  have c6 := hD.2.1 i0 hi0
  have gv : xV σ giver = -1 := hD.2.2.2.1.2.2
  have A5 := x5 giver gi
  have B6 := x6 tk n1
  have rg := uS_nn (f := f giver) b (fun j hj => x4 giver j gi hj)
  have cg := uS_nn (f := fun i => f i tk) a (fun i hi => x4 i tk hi n1)
  have L1 := (s4 giver gi).2
  have L2 := (s5 tk n1).2
  have rows64 : ∀ i, i < a → uS (f i) b ≤ 64 := fun i hi => by have := x5 i hi; omega
  have f0 := (s3 i0 tk hi0 n1).2
  have fb : 0 ≤ f i0 tk ∧ f i0 tk ≤ 64 := ⟨x4 i0 tk hi0 n1, by have := uS_ge b tk (fun j hj => x4 i0 j hi0 hj) n1; have := rows64 i0 hi0; omega⟩
  unfold m_X0_send m_X0_send_0
  rw [z_nv h1, z_nv h2]
  refine ok_i (by omega) (ok_i (by omega) (ok_l fun s3' e3 => ok_i (by omega) (ok_i (by omega) (ok_l fun s7 e7 => ok_i (by omega) (ok_l fun v10 e10 => ?_)))))
  have h10 : v10.toInt = i0 := by
    rw [e10, e7, g_sI, if_neg (by omega), e3, g_sI, if_neg (by omega), hH.1 _ _ (by omega) (by omega)]; exact hW0
  rw [z_nv h10]
  have o7 : ∀ k i, k ≠ 32 → k ≠ 33 → s7.1 k i = σ1.1 k i := fun k i y1 y2 => by rw [e7, g_sI, if_neg (by omega), e3, g_sI, if_neg (by omega)]
  have o72 : s7.2 = σ1.2 := by rw [e7, g_sI2, e3, g_sI2]
  refine ok_i (by omega) (ok_i (by omega) (ok_i (by omega) (ok_l fun s16 e16 => ?_)))
  refine (x_send50 (σ := s7) (V := xV σ) (W := xW σ) (T := xT σ) (R := xR σ) (dn := xd σ) (w := l3.toInt) (tk := tk) (r' := r') (s' := s') x1 x2 hD (fun i _ => by rw [o7 _ _ (by omega) (by omega), hH.1 _ _ (by omega) (by omega)]; rfl) (fun j _ => by rw [o7 _ _ (by omega) (by omega), hH.1 _ _ (by omega) (by omega)]; rfl) hti rows64 hPS gv rfl w0 (by omega) 24 FV i0 0 s16 (uG f i0 tk l3.toInt) v10 0 (FV_big (by omega)) (by omega) (by omega) hi0 c3 h10 rfl h0 (by rw [e16]; exact fr1.rf.sI (by omega)) (fun k j hk hj => ?_) (uAg.start x4 (by omega) hi0 n1 (hti tk i0 n1 hi0 (Or.inr rfl) hW0))).mono (fun _ q ⟨g1, gc, g2, g3⟩ => ⟨⟨fun k i z => ?_, ?_⟩, gc, hX.sent gi n1 w0 w1 w2 g3, ⟨?_, ?_, fun i j hi hj => ⟨?_, g2 i j hi hj⟩, fun i hi => ⟨?_, ?_⟩, fun j hj => ⟨?_, ?_⟩⟩, g3.1⟩)
  · rw [e16, g_sI]
    unfold uG
    by_cases e : k = i0 ∧ j = tk
    · rw [if_pos ⟨by rw [e.1], e.2⟩, if_pos e, e.1, e.2]
      have o2 : (s7.1 (119 + i0) tk).toInt = f i0 tk := by rw [o7 _ _ (by omega) (by omega)]; exact f0
      exact z_addv o2 rfl (by omega) (by omega)
    · rw [if_neg (by omega), if_neg e, o7 _ _ (by omega) (by omega)]; exact (s3 k j hk hj).2
  · rw [g1.1 _ _ (by omega), o7 _ _ (by omega) (by omega)]
  · rw [g1.2]; exact o72
  · rw [g1.1 _ _ (by omega), o7 _ _ (by omega) (by omega)]; exact s1
  · rw [g1.1 _ _ (by omega), o7 _ _ (by omega) (by omega)]; exact s2
  · rw [g1.1 _ _ (by omega), o7 _ _ (by omega) (by omega)]; exact (s3 i j hi hj).1
  · rw [g1.1 _ _ (by omega), o7 _ _ (by omega) (by omega)]; exact (s4 i hi).1
  · rw [g1.1 _ _ (by omega), e7, g_sI, if_neg (by omega), e3, g_sI, g3.1 i hi]
    by_cases z : i = giver
    · rw [if_pos ⟨rfl, z⟩, if_pos z, z, z_sub (by omega) (by omega), L1]; omega
    · rw [if_neg (fun y => z y.2), if_neg z, Int.add_zero]; exact (s4 i hi).2
  · rw [g1.1 _ _ (by omega), o7 _ _ (by omega) (by omega)]; exact (s5 j hj).1
  · rw [g1.1 _ _ (by omega), e7, g_sI, g3.2.1 j hj]
    have o3 : (s3'.1 (32 + 1) j).toInt = B j - uS (fun i => f i j) a := by rw [e3, g_sI, if_neg (by omega)]; exact (s5 j hj).2
    by_cases z : j = tk
    · rw [z] at o3
      rw [if_pos ⟨rfl, z⟩, if_pos z, z, z_sub (by omega) (by omega), o3]; omega
    · rw [if_neg (fun y => z y.2), if_neg z, Int.add_zero]; exact o3
