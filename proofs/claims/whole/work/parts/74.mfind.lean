/-! ===== the model looks at a tune ===== -/
def msv (v : Int) : Int := if v = -1000 then 1000 else v
def MSg (sg : Nat → Int) (N : Nat) (σ : SG) : Prop := N ≤ 24 ∧ (σ.1 0 23).toInt = N ∧ ∀ k, k < N → (σ.1 9 k).toInt = msv (sg k)
theorem m_side {σ : SG} {x y : Int32} {a b : Int} (ha : x.toInt = a) (hb : y.toInt = b) : uOk (m_X12_side σ x y) (fun v s => s = σ ∧ v.toInt = trn (a - b)) := by
  unfold m_X12_side m_X12_side_0 trn
  refine ok_ite (fun q => ok_ite (fun q2 => ok_r ⟨rfl, ?_⟩) (fun q2 => ok_r ⟨rfl, ?_⟩)) (fun q => ok_r ⟨rfl, ?_⟩)
  · rw [z_le, ha, hb] at q; rw [z_le, ha, hb] at q2; rw [if_pos (by omega)]; rfl
  · rw [z_le, ha, hb] at q; rw [z_le, ha, hb] at q2; rw [if_neg (by omega), if_neg (by omega)]; rfl
  · rw [z_le, ha, hb] at q; rw [if_neg (by omega), if_pos (by omega)]; rfl
def MRow (t : Nat) (p l : Nat → Int) (m : Nat) (σ : SG) : Prop := t < 8 ∧ m ≤ 24 ∧ (σ.1 3 t).toInt = m ∧ ∀ j, j < m → (σ.1 1 (24 * t + j)).toInt = p j ∧ (σ.1 2 (24 * t + j)).toInt = l j
theorem MRow.fr {t : Nat} {p l : Nat → Int} {m : Nat} {G : List Nat} {σ σ' : SG} (h : MRow t p l m σ) (f : frM G σ σ') (q : 0 ∉ G) : MRow t p l m σ' := by
  obtain ⟨h1, h2, h3, h4⟩ := h
  exact ⟨h1, h2, by rw [f.1 3 t q]; exact h3, fun j hj => by rw [f.1 1 _ q, f.1 2 _ q]; exact h4 j hj⟩
theorem m_look44 {t : Nat} {p l : Nat → Int} {m view : Nat} {l1 l2 l3 l4 : Int32} (hb : rowB p l m) (h1 : l1.toInt = t) (h2 : l2.toInt = view) (h5 : view < 5) (h3 : l3.toInt = (24 * t : Nat)) (h4 : l4 = 0 ↔ two view = 0) : ∀ (d fuel k : Nat) (σ : SG) (l5 : Int32), d < fuel → k + two view + d = m → MRow t p l m σ → l5.toInt = (k + two view : Nat) → MSg (sgs p l view) k σ → uOk (m_X12_look_44 fuel σ l1 l2 l3 l4 l5) (fun _ σ' => frM [8] σ σ' ∧ MSg (sgs p l view) (m - two view) σ') := by
  have k0 : ((0 : Int32)).toInt = 0 := rfl
  have k1 : ((1 : Int32)).toInt = 1 := rfl
  have k3 : ((3 : Int32)).toInt = 3 := rfl
  have ez : ∀ k : Int32, l2 = k ↔ (view : Int) = k.toInt := fun k => by rw [z_eq, h2]
  have tw : two view = 0 ∨ two view = 1 := by unfold two; split <;> simp
  intro d
  induction d with
  | zero =>
    intro fuel k σ l5 hf hr hR hl5 hS
    cases fuel with
    | zero => omega
    | succ fuel =>
      show uOk (m_X12_look_44_s _ σ l1 l2 l3 l4 l5) _
      unfold m_X12_look_44_s
      rw [z_nv h1]
      exact ok_i (by have := hR.1; omega) (ok_ite (fun _ => ok_r ⟨frM.rf, by rw [show m - two view = k by omega]; exact hS⟩) (fun q => absurd (z_le.mpr (by rw [hR.2.2.1, hl5]; omega)) q))
  | succ d ih =>
    intro fuel k σ l5 hf hr hR hl5 hS
    cases fuel with
    | zero => omega
    | succ fuel =>
      show uOk (m_X12_look_44_s _ σ l1 l2 l3 l4 l5) _
      unfold m_X12_look_44_s
      obtain ⟨r1, r2, r3, r4⟩ := id hR
      have e35 : (l3 + l5).toInt = (24 * t + (k + two view) : Nat) := by rw [z_addv h3 hl5 (by omega) (by omega)]; omega
      have hn := r4 (k + two view) (by omega)
      have hbn := hb (k + two view) (by omega)
      rw [z_nv h1, z_nv e35]
      -- the write
      have m207 : ∀ s0 : Int32, s0.toInt = msv (sgs p l view k) → uOk (m_X12_look_207 (m_X12_look_44 fuel) σ l1 l2 l3 l4 l5 s0 (σ.1 0 23)) (fun _ σ' => frM [8] σ σ' ∧ MSg (sgs p l view) (m - two view) σ') := fun s0 hs0 => by
        unfold m_X12_look_207
        rw [z_nv hS.2.1]
        refine ok_i (by rw [hS.2.1]; omega) (ok_l fun s1 e1 => ok_l fun s2 e2 => ok_l fun v ev => ?_)
        have c1 : s1.1 0 23 = σ.1 0 23 := by rw [e1, g_sI, if_neg (by omega)]
        have hF : frM [8] σ s2 := by rw [e2, e1]; exact (frM.rf.sI (k := 9) (by show (8 : Nat) ∈ _; decide)).sI (by show (8 : Nat) ∈ _; decide)
        refine (ih fuel (k + 1) s2 v (by omega) (by omega) (hR.fr hF (by decide)) (by rw [ev, z_add1 (by omega), hl5]; omega) ⟨by omega, by rw [e2, g_sI_s, c1, z_add1 (by rw [hS.2.1]; omega), hS.2.1]; rfl, fun j hj => ?_⟩).mono (fun _ s h => ⟨hF.tr h.1, h.2⟩)
        rw [e2, g_sI, if_neg (by omega), e1, g_sI]
        by_cases e : j = k
        · rw [if_pos ⟨rfl, e⟩, hs0, e]
        · rw [if_neg (fun z => e z.2)]; exact hS.2.2 j (by omega)
      have m184 : ∀ (l9 s0 : Int32), (l9 = 0 → s0.toInt = sgs p l view k ∧ sgs p l view k ≠ -1000) → (¬ l9 = 0 → sgs p l view k = -1000) → uOk (m_X12_look_184 (m_X12_look_44 fuel) σ l1 l2 l3 l4 l5 l9 s0) (fun _ σ' => frM [8] σ σ' ∧ MSg (sgs p l view) (m - two view) σ') := fun l9 s0 ha hb' => by
        unfold m_X12_look_184
        refine ok_ite (fun q => m207 s0 ?_) (fun q => m207 1000 ?_)
        · unfold msv; rw [if_neg (ha q).2]; exact (ha q).1
        · unfold msv; rw [if_pos (hb' q)]; rfl
      -- was: the pitch before, or 0
      have m97 : ∀ s0 : Int32, (two view = 1 → s0.toInt = p (k + two view - 1)) → (two view = 0 → s0.toInt = 0) → uOk (m_X12_look_97 (m_X12_look_44 fuel) σ l1 l2 l3 l4 l5 (σ.1 1 (24 * t + (k + two view))) (σ.1 2 (24 * t + (k + two view))) s0) (fun _ σ' => frM [8] σ σ' ∧ MSg (sgs p l view) (m - two view) σ') := fun s0 hs1 hs0 => by
        have hbp := hb (k + two view - 1) (by omega)
        have m119 : ∀ r : Int32, (r = 0 ↔ ¬ (view < 3 ∧ ((σ.1 1 (24 * t + (k + two view))).toInt < 0 ∨ s0.toInt < 0))) → uOk (m_X12_look_119 (m_X12_look_44 fuel) σ l1 l2 l3 l4 l5 (σ.1 1 (24 * t + (k + two view))) (σ.1 2 (24 * t + (k + two view))) s0 r) (fun _ σ' => frM [8] σ σ' ∧ MSg (sgs p l view) (m - two view) σ') := fun r hr' => by
          rw [hn.1] at hr'
          unfold m_X12_look_119
          simp only [ez]
          have sg0 : sgs p l view k = sgO p l view (k + two view) := rfl
          refine ok_ite (fun q0 => ok_ite (fun q1 => ok_ite (fun q2 => ok_ite (fun q3 => ?_) (fun q => ?_)) (fun q => ?_)) (fun q => ?_)) (fun q => ?_)
          · -- 4
            have q0 : ¬ (view : Int) = 0 := q0
            have q1 : ¬ (view : Int) = 1 := q1
            have q2 : ¬ (view : Int) = 2 := q2
            have q3 : ¬ (view : Int) = 3 := q3
            have e4 : view = 4 := by omega
            have t1 : two view = 1 := by rw [e4]; rfl
            have e351 : (l3 + l5 - 1).toInt = (24 * t + (k + two view - 1) : Nat) := by rw [z_sub1 (by omega), e35]; omega
            rw [z_nv e351]
            have hn1 := r4 (k + two view - 1) (by omega)
            have hsg : sgs p l view k = trn (l (k + two view) - l (k + two view - 1)) := by
              rw [sg0]; unfold sgO; rw [if_neg (by omega), if_neg (by omega), if_neg (by omega), if_neg (by omega)]
            have tb := trn_b (l (k + two view) - l (k + two view - 1))
            refine ok_i (by omega) (ok_b (m_side hn.2 hn1.2) (fun v27 s28 h27 => ?_))
            obtain ⟨rfl, h27⟩ := h27
            exact m184 r v27 (fun _ => ⟨by rw [hsg]; exact h27, by rw [hsg]; omega⟩) (fun q => absurd (hr'.mpr (by omega)) q)
          · have q : ¬ ¬ (view : Int) = 3 := q
            have e3 : view = 3 := by omega
            have hsg : sgs p l view k = l (k + two view) := by
              rw [sg0]; unfold sgO; rw [if_neg (by omega), if_neg (by omega), if_neg (by omega), if_pos e3]
            exact m184 r _ (fun _ => ⟨by rw [hsg]; exact hn.2, by rw [hsg]; omega⟩) (fun q => absurd (hr'.mpr (by omega)) q)
          · have q : ¬ ¬ (view : Int) = 2 := q
            have e2 : view = 2 := by omega
            have t1 : two view = 1 := by rw [e2]; rfl
            have hp := hs1 t1
            rw [hp] at hr'
            have hsg : sgs p l view k = (if p (k + two view) = -1 ∨ p (k + two view - 1) = -1 then -1000 else trn (p (k + two view) - p (k + two view - 1))) := by
              rw [sg0]; unfold sgO; rw [if_neg (by omega), if_neg (by omega), if_pos e2]
            have tb := trn_b (p (k + two view) - p (k + two view - 1))
            refine ok_b (m_side hn.1 hp) (fun v30 s31 h30 => ?_)
            obtain ⟨rfl, h30⟩ := h30
            refine m184 r v30 (fun q => ?_) (fun q => ?_)
            · have := hr'.mp q
              rw [hsg, if_neg (by omega)]
              exact ⟨h30, by omega⟩
            · have : ¬ ¬ (view < 3 ∧ (p (k + two view) < 0 ∨ p (k + two view - 1) < 0)) := fun z => q (hr'.mpr z)
              rw [hsg, if_pos (by omega)]
          · have q : ¬ ¬ (view : Int) = 1 := q
            have e1 : view = 1 := by omega
            have t1 : two view = 1 := by rw [e1]; rfl
            have hp := hs1 t1
            rw [hp] at hr'
            have hsg : sgs p l view k = (if p (k + two view) = -1 ∨ p (k + two view - 1) = -1 then -1000 else p (k + two view) - p (k + two view - 1)) := by
              rw [sg0]; unfold sgO; rw [if_neg (by omega), if_pos e1]
            refine m184 r _ (fun q => ?_) (fun q => ?_)
            · have := hr'.mp q
              rw [hsg, if_neg (by omega)]
              exact ⟨z_subv hn.1 hp (by omega) (by omega), by omega⟩
            · have : ¬ ¬ (view < 3 ∧ (p (k + two view) < 0 ∨ p (k + two view - 1) < 0)) := fun z => q (hr'.mpr z)
              rw [hsg, if_pos (by omega)]
          · have q : ¬ ¬ (view : Int) = 0 := q
            have e0 : view = 0 := by omega
            have t0 : two view = 0 := by rw [e0]; rfl
            have hp := hs0 t0
            rw [hp] at hr'
            have hsg : sgs p l view k = (if p (k + two view) = -1 then -1000 else p (k + two view)) := by
              rw [sg0]; unfold sgO; rw [if_pos e0]
            refine m184 r _ (fun q => ?_) (fun q => ?_)
            · have := hr'.mp q
              rw [hsg, if_neg (by omega)]
              exact ⟨hn.1, by omega⟩
            · have : ¬ ¬ (view < 3 ∧ (p (k + two view) < 0 ∨ (0 : Int) < 0)) := fun z => q (hr'.mpr z)
              rw [hsg, if_pos (by omega)]
        unfold m_X12_look_97 m_X12_look_118 m_X12_look_114
        refine ok_ite (fun q => m119 0 ?_) (fun q => ok_ite (fun q2 => m119 1 ?_) (fun q2 => ok_ite (fun q3 => m119 0 ?_) (fun q3 => m119 1 ?_)))
        · rw [z_le, h2, k3] at q; simp; omega
        · rw [z_le, h2, k3] at q; rw [z_lt, k0] at q2; simp; omega
        · rw [z_le, h2, k3] at q; rw [z_lt, k0] at q2; rw [z_le, k0] at q3; simp; omega
        · rw [z_le, h2, k3] at q; rw [z_lt, k0] at q2; rw [z_le, k0] at q3; simp; omega
      refine ok_i (by omega) (ok_ite (fun q => absurd (z_le.mp q) (by rw [hR.2.2.1, hl5]; omega)) (fun _ => ok_i (by omega) (ok_l fun v12 e12 => ok_i (by omega) (ok_l fun v15 e15 => ?_))))
      rw [e12, e15]
      refine ok_ite (fun q => m97 0 (fun z => by have := h4.mp q; omega) (fun _ => k0)) (fun q => ?_)
      have t1 : two view = 1 := by
        rcases tw with h | h
        · exact absurd (h4.mpr h) q
        · exact h
      have e351 : (l3 + l5 - 1).toInt = (24 * t + (k + two view - 1) : Nat) := by rw [z_sub1 (by omega), e35]; omega
      rw [z_nv e351]
      exact ok_i (by omega) (m97 _ (fun _ => (r4 (k + two view - 1) (by omega)).1) (fun z => by omega))
theorem m_look {t : Nat} {p l : Nat → Int} {m view : Nat} {σ : SG} {p0 p1 : Int32} (hR : MRow t p l m σ) (hb : rowB p l m) (h0 : p0.toInt = t) (h1 : p1.toInt = view) (h5 : view < 5) : uOk (m_X12_look σ p0 p1) (fun _ σ' => frM [8] σ σ' ∧ MSg (sgs p l view) (m - two view) σ') := by
  have kn : ((24 : Int32)).toInt = 24 := rfl
  have hm := hR.2.1
  have ht := hR.1
  have ez : ∀ k : Int32, p1 = k ↔ (view : Int) = k.toInt := fun k => by rw [z_eq, h1]
  unfold m_X12_look m_X12_look_0
  refine ok_l fun v1 e1 => ?_
  have h3 : v1.toInt = (24 * t : Nat) := by rw [e1, z_mulv kn h0 (by omega) (by omega)]; omega
  have go : ∀ (s0 : Int32) (w : Nat), two view = w → s0.toInt = w → uOk (m_X12_look_25 σ p0 p1 v1 s0) (fun _ σ' => frM [8] σ σ' ∧ MSg (sgs p l view) (m - two view) σ') := fun s0 w hw hs => by
    unfold m_X12_look_25
    refine ok_l fun s es => ?_
    have hF : frM [8] σ s := by rw [es]; exact frM.rf.sI (by show (8 : Nat) ∈ _; decide)
    have hR1 := hR.fr hF (by decide)
    have hS0 : MSg (sgs p l view) 0 s := ⟨by omega, by rw [es, g_sI_s]; rfl, fun k hk => by omega⟩
    have hz : s0 = 0 ↔ two view = 0 := by rw [z_eq, hs, show ((0 : Int32)).toInt = 0 from rfl, hw]; omega
    have run : ∀ x : Int32, x.toInt = w → uOk (m_X12_look_42 s p0 p1 v1 s0 x) (fun _ σ' => frM [8] σ σ' ∧ MSg (sgs p l view) (m - two view) σ') := fun x hx => by
      unfold m_X12_look_42
      by_cases q : two view ≤ m
      · exact (m_look44 hb h0 h1 h5 h3 hz (m - two view) FV 0 s x (FV_big (by omega)) (by omega) hR1 (by rw [hx]; omega) hS0).mono (fun _ s' h => ⟨hF.tr h.1, h.2⟩)
      · show uOk (m_X12_look_44_s (m_X12_look_44 (FV - 1)) s p0 p1 v1 s0 x) _
        unfold m_X12_look_44_s
        rw [z_nv h0]
        refine ok_i (by omega) (ok_ite (fun _ => ok_r ⟨hF, by rw [show m - two view = 0 by omega]; exact hS0⟩) (fun z => absurd (z_le.mpr (by rw [hR1.2.2.1, hx]; omega)) z))
    refine ok_ite (fun q => run 0 ?_) (fun q => run 1 ?_)
    · have := hz.mp q; rw [← hw, this]; rfl
    · have : two view ≠ 0 := fun z => q (hz.mpr z)
      have : two view = 1 := by unfold two at *; split <;> simp_all
      rw [← hw, this]; rfl
  simp only [ez]
  refine ok_ite (fun q => ?_) (fun q1 => ok_ite (fun q => ?_) (fun q2 => ok_ite (fun q => ?_) (fun q => ?_)))
  · have q : (view : Int) = 1 := q
    unfold m_X12_look_20
    exact go 1 1 (by unfold two; rw [if_pos (by omega)]) rfl
  · have q : (view : Int) = 2 := q
    unfold m_X12_look_20
    exact go 1 1 (by unfold two; rw [if_pos (by omega)]) rfl
  · have q : ¬ (view : Int) = 4 := q
    have q1 : ¬ (view : Int) = 1 := q1
    have q2 : ¬ (view : Int) = 2 := q2
    exact go 0 0 (by unfold two; rw [if_neg (by omega)]) rfl
  · have q : ¬ ¬ (view : Int) = 4 := q
    unfold m_X12_look_20
    exact go 1 1 (by unfold two; rw [if_pos (by omega)]) rfl
