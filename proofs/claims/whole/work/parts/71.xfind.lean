/-! ===== the class's find ===== -/
def trn (z : Int) : Int := if z = 0 then 0 else if 0 < z then 1 else -1
def two (view : Nat) : Nat := if view = 1 ∨ view = 2 ∨ view = 4 then 1 else 0
/-- the sign of note n in a view; a rest is -1000 -/
def sgO (p l : Nat → Int) (view n : Nat) : Int :=
  if view = 0 then (if p n = -1 then -1000 else p n) else if view = 1 then (if p n = -1 ∨ p (n - 1) = -1 then -1000 else p n - p (n - 1)) else if view = 2 then (if p n = -1 ∨ p (n - 1) = -1 then -1000 else trn (p n - p (n - 1))) else if view = 3 then l n else trn (l n - l (n - 1))
def sgs (p l : Nat → Int) (view : Nat) : Nat → Int := fun k => sgO p l view (k + two view)
theorem trn_b (z : Int) : -1 ≤ trn z ∧ trn z ≤ 1 := by unfold trn; split <;> (try split) <;> omega
def rowB (p l : Nat → Int) (n : Nat) : Prop := ∀ j, j < n → -1 ≤ p j ∧ p j ≤ 127 ∧ 1 ≤ l j ∧ l j ≤ 64
theorem sgO_b {p l : Nat → Int} {view n m : Nat} (h : rowB p l m) (hn : n < m) (h2 : two view ≤ n) : sgO p l view n = -1000 ∨ (-999 ≤ sgO p l view n ∧ sgO p l view n ≤ 999) := by
  have a := h n hn
  have b := h (n - 1) (by omega)
  have t1 := trn_b (p n - p (n - 1))
  have t2 := trn_b (l n - l (n - 1))
  unfold sgO
  split
  · split <;> omega
  · split
    · split <;> omega
    · split
      · split <;> omega
      · split <;> omega
section XS
variable {r : Nat} {p l : Nat → Int} {m : Nat} {σ : SG}
def XRow (r : Nat) (p l : Nat → Int) (m : Nat) (σ : SG) : Prop := r < 8 ∧ m ≤ 24 ∧ (σ.1 (156 + r) 2).toInt = m ∧ ∀ j, j < m → (σ.1 (2 * r) j).toInt = p j ∧ (σ.1 (2 * r + 1) j).toInt = l j
theorem x_isRest (hR : XRow r p l m σ) {n : Nat} {v : Int32} (hn : n < m) (hv : v.toInt = n) : uOk (m_X4_isRest r σ v) (fun x s => s = σ ∧ (x = 0 ↔ ¬ p n = -1)) := by
  obtain ⟨h1, h2, h3, h4⟩ := hR
  have e := (lenX_row (show r < 9 by omega)).1
  have c : rcap r = 24 := by unfold rcap; rw [if_neg (by omega)]
  unfold m_X4_isRest m_X4_isRest_0
  rw [e, c, z_nv hv]
  have hp := (h4 n hn).1
  refine ok_i (by omega) (ok_ite (fun q => ok_r ⟨rfl, ?_⟩) (fun q => ok_r ⟨rfl, ?_⟩))
  · rw [z_eq, hp, show ((-1 : Int32)).toInt = -1 from rfl] at q; simp [q]
  · rw [z_eq, hp, show ((-1 : Int32)).toInt = -1 from rfl, Classical.not_not] at q; simp [q]
theorem x_turn {v : Int32} : uOk (m_X6_turn σ v) (fun x s => s = σ ∧ x.toInt = trn v.toInt) := by
  have k0 : ((0 : Int32)).toInt = 0 := rfl
  unfold m_X6_turn m_X6_turn_0 trn
  refine ok_ite (fun q => ok_ite (fun q2 => ok_r ⟨rfl, ?_⟩) (fun q2 => ok_r ⟨rfl, ?_⟩)) (fun q => ok_r ⟨rfl, ?_⟩)
  · rw [z_eq, k0] at q; rw [z_le, k0] at q2; rw [if_neg q, if_neg (by omega)]; rfl
  · rw [z_eq, k0] at q; rw [z_le, k0] at q2; rw [if_neg q, if_pos (by omega)]; rfl
  · rw [z_eq, k0, Classical.not_not] at q; rw [if_pos q]; rfl
theorem x_interval (hR : XRow r p l m σ) (hb : rowB p l m) {n : Nat} {v : Int32} (hn : n < m) (h1 : 1 ≤ n) (hv : v.toInt = n) : uOk (m_X6_interval r σ v) (fun x s => s = σ ∧ x.toInt = if p n = -1 ∨ p (n - 1) = -1 then -1000 else p n - p (n - 1)) := by
  have e := (lenX_row (show r < 9 by have := hR.1; omega)).1
  have c : rcap r = 24 := by unfold rcap; rw [if_neg (by have := hR.1; omega)]
  have hv1 : (v - 1).toInt = (n - 1 : Nat) := by rw [z_sub1 (by omega), hv]; omega
  have hm := hR.2.1
  unfold m_X6_interval m_X6_interval_0
  refine ok_b (x_isRest hR hn hv) (fun x s h => ?_)
  obtain ⟨rfl, hx⟩ := h
  refine ok_ite (fun q => ok_r ⟨rfl, ?_⟩) (fun q => ok_b (x_isRest hR (n := n - 1) (by omega) hv1) (fun y s2 h2 => ?_))
  · rw [if_pos (Or.inl (Classical.not_not.mp (fun z => q (hx.mpr z))))]; rfl
  obtain ⟨rfl, hy⟩ := h2
  have hp : ¬ p n = -1 := hx.mp (Classical.not_not.mp q)
  rw [e, c, z_nv hv, z_nv hv1]
  have a := hR.2.2.2 n hn
  have b := hR.2.2.2 (n - 1) (by omega)
  have a' := hb n hn
  have b' := hb (n - 1) (by omega)
  refine ok_ite (fun q2 => ok_i (by omega) (ok_i (by omega) (ok_r ⟨rfl, ?_⟩))) (fun q2 => ok_r ⟨rfl, ?_⟩)
  · rw [if_neg (fun z => z.elim hp (hy.mp q2)), z_subv a.1 b.1 (by omega) (by omega)]
  · rw [if_pos (Or.inr (Classical.not_not.mp (fun z => q2 (hy.mpr z))))]; rfl
theorem x_signOf (hR : XRow r p l m σ) (hb : rowB p l m) {n view : Nat} {v w : Int32} (hn : n < m) (h2 : two view ≤ n) (hv : v.toInt = n) (hw : w.toInt = view) (h5 : view < 5) : uOk (m_X6_signOf r σ v w) (fun x s => s = σ ∧ x.toInt = sgO p l view n) := by
  have e := lenX_row (show r < 9 by have := hR.1; omega)
  have c : rcap r = 24 := by unfold rcap; rw [if_neg (by have := hR.1; omega)]
  have hm := hR.2.1
  have a := hR.2.2.2 n hn
  have a' := hb n hn
  have ez : ∀ k : Int32, w = k ↔ (view : Int) = k.toInt := fun k => by rw [z_eq, hw]
  unfold m_X6_signOf m_X6_signOf_0
  rw [e.1, e.2, c]
  simp only [ez]
  refine ok_ite (fun q => ?_) (fun q0 => ok_ite (fun q => ?_) (fun q1 => ok_ite (fun q => ?_) (fun q2 => ok_ite (fun q => ?_) (fun q3 => ?_))))
  · have q : (view : Int) = 0 := q
    have e0 : view = 0 := by omega
    subst e0
    refine ok_b (x_isRest hR hn hv) (fun x s h => ?_)
    obtain ⟨rfl, hx⟩ := h
    unfold sgO
    rw [if_pos rfl, z_nv hv]
    refine ok_ite (fun q => ok_i (by omega) (ok_r ⟨rfl, ?_⟩)) (fun q => ok_r ⟨rfl, ?_⟩)
    · rw [if_neg (hx.mp q)]; exact a.1
    · rw [if_pos (Classical.not_not.mp (fun z => q (hx.mpr z)))]; rfl
  · have q : (view : Int) = 1 := q
    have e0 : view = 1 := by omega
    subst e0
    have h2 : 1 ≤ n := h2
    refine ok_b (x_interval hR hb hn h2 hv) (fun x s h => ok_r ⟨h.1, ?_⟩)
    unfold sgO
    rw [if_neg (by omega), if_pos rfl]
    exact h.2
  · have q : (view : Int) = 2 := q
    have e0 : view = 2 := by omega
    subst e0
    have h2 : 1 ≤ n := h2
    unfold m_X6_turnOfInterval m_X6_turnOfInterval_0
    have b' := hb (n - 1) (by omega)
    have km : ((-1000 : Int32)).toInt = -1000 := rfl
    refine ok_b (Q := fun x s => s = σ ∧ x.toInt = sgO p l 2 n) (ok_b (x_interval hR hb hn h2 hv) (fun x s h => ?_)) (fun x s h => ok_r h)
    obtain ⟨rfl, hx⟩ := h
    have hsg : sgO p l 2 n = (if p n = -1 ∨ p (n - 1) = -1 then -1000 else trn (p n - p (n - 1))) := by
      unfold sgO
      rw [if_neg (by omega), if_neg (by omega), if_pos rfl]
    rw [hsg]
    refine ok_ite (fun q => ok_b x_turn (fun y s2 h2 => ok_r ⟨h2.1, ?_⟩)) (fun q => ok_r ⟨rfl, ?_⟩)
    · rw [z_eq, hx, km] at q
      by_cases z : p n = -1 ∨ p (n - 1) = -1
      · rw [if_pos z] at q; exact absurd rfl q
      · rw [if_neg z] at hx ⊢
        rw [h2.2, hx]
    · rw [z_eq, hx, km, Classical.not_not] at q
      by_cases z : p n = -1 ∨ p (n - 1) = -1
      · rw [if_pos z]; exact km
      · rw [if_neg z] at q; omega
  · have q : (view : Int) = 3 := q
    have e0 : view = 3 := by omega
    subst e0
    rw [z_nv hv]
    refine ok_i (by omega) (ok_r ⟨rfl, ?_⟩)
    unfold sgO
    rw [if_neg (by omega), if_neg (by omega), if_neg (by omega), if_pos rfl]
    exact a.2
  · have q0 : ¬ (view : Int) = 0 := q0
    have q1 : ¬ (view : Int) = 1 := q1
    have q2 : ¬ (view : Int) = 2 := q2
    have q3 : ¬ (view : Int) = 3 := q3
    have e0 : view = 4 := by omega
    subst e0
    have h2 : 1 ≤ n := h2
    have hv1 : (v - 1).toInt = (n - 1 : Nat) := by rw [z_sub1 (by omega), hv]; omega
    have b := hR.2.2.2 (n - 1) (by omega)
    have b' := hb (n - 1) (by omega)
    rw [z_nv hv, z_nv hv1]
    refine ok_i (by omega) (ok_i (by omega) (ok_b x_turn (fun y s2 h2 => ok_r ⟨h2.1, ?_⟩)))
    unfold sgO
    rw [if_neg (by omega), if_neg (by omega), if_neg (by omega), if_neg (by omega), h2.2, z_subv a.2 b.2 (by omega) (by omega)]
end XS
/-- the row of signs stands in the class -/
def XSg (sg : Nat → Int) (N : Nat) (σ : SG) : Prop := N ≤ 24 ∧ (σ.1 205 1).toInt = N ∧ ∀ k, k < N → (σ.1 20 k).toInt = sg k
theorem XRow.fr {r : Nat} {p l : Nat → Int} {m : Nat} {G : List Nat} {σ σ' : SG} (h : XRow r p l m σ) (f : frX G σ σ') (q : 0 ∉ G) : XRow r p l m σ' := by
  obtain ⟨h1, h2, h3, h4⟩ := h
  have g := @rgX_row r 2 (by omega)
  refine ⟨h1, h2, by rw [f.1 _ _ (by rw [g.2.2]; exact q)]; exact h3, fun j hj => ?_⟩
  have g' := @rgX_row r j (by omega)
  rw [f.1 _ _ (by rw [g'.1]; exact q), f.1 _ _ (by rw [g'.2.1]; exact q)]
  exact h4 j hj
theorem x_look23 {r : Nat} {p l : Nat → Int} {m view : Nat} {l2 : Int32} (hb : rowB p l m) (h2 : l2.toInt = view) (h5 : view < 5) : ∀ (d fuel k : Nat) (σ : SG) (l4 : Int32), d < fuel → k + two view + d = m → XRow r p l m σ → l4.toInt = (k + two view : Nat) → XSg (sgs p l view) k σ → uOk (m_X6_look_23 r fuel σ l2 l4) (fun _ σ' => frX [8] σ σ' ∧ XSg (sgs p l view) (m - two view) σ') := by
  intro d
  induction d with
  | zero =>
    intro fuel k σ l4 hf hr hR h4 hS
    cases fuel with
    | zero => omega
    | succ fuel =>
      show uOk (m_X6_look_23_s r _ σ l2 l4) _
      unfold m_X6_look_23_s
      exact ok_ite (fun _ => ok_r ⟨frX.rf, by rw [show m - two view = k by omega]; exact hS⟩) (fun q => absurd (z_le.mpr (by rw [hR.2.2.1, h4]; omega)) q)
  | succ d ih =>
    intro fuel k σ l4 hf hr hR h4 hS
    cases fuel with
    | zero => omega
    | succ fuel =>
      show uOk (m_X6_look_23_s r _ σ l2 l4) _
      unfold m_X6_look_23_s
      have hm := hR.2.1
      refine ok_ite (fun q => absurd (z_le.mp q) (by rw [hR.2.2.1, h4]; omega)) (fun _ => ok_b (x_signOf hR hb (n := k + two view) (by omega) (by omega) h4 h2 h5) (fun v6 s7 h6 => ?_))
      obtain ⟨rfl, h6⟩ := h6
      rw [z_nv hS.2.1]
      refine ok_i (by rw [hS.2.1]; omega) (ok_l fun s1 e1 => ok_l fun s2 e2 => ok_l fun v ev => ?_)
      have c1 : s1.1 205 1 = s7.1 205 1 := by rw [e1, g_sI, if_neg (by omega)]
      have hF : frX [8] s7 s2 := by rw [e2, e1]; exact (frX.rf.sI (k := 20) (by show (8 : Nat) ∈ _; decide)).sI (by show (8 : Nat) ∈ _; decide)
      refine (ih fuel (k + 1) s2 v (by omega) (by omega) (hR.fr hF (by decide)) (by rw [ev, z_add1 (by omega), h4]; omega) ⟨by omega, by rw [e2, g_sI_s, c1, z_add1 (by rw [hS.2.1]; omega), hS.2.1]; rfl, fun j hj => ?_⟩).mono (fun _ s h => ⟨hF.tr h.1, h.2⟩)
      rw [e2, g_sI, if_neg (by omega), e1, g_sI]
      by_cases e : j = k
      · rw [if_pos ⟨rfl, e⟩, h6, e]; rfl
      · rw [if_neg (fun z => e z.2)]; exact hS.2.2 j (by omega)
theorem x_look {r : Nat} {p l : Nat → Int} {m view : Nat} {σ : SG} {p1 : Int32} (hR : XRow r p l m σ) (hb : rowB p l m) (h1 : p1.toInt = view) (h5 : view < 5) : uOk (m_X6_look r σ p1) (fun _ σ' => frX [8] σ σ' ∧ XSg (sgs p l view) (m - two view) σ') := by
  have hm := hR.2.1
  have ez : ∀ k : Int32, p1 = k ↔ (view : Int) = k.toInt := fun k => by rw [z_eq, h1]
  unfold m_X6_look m_X6_look_0
  refine ok_l fun s es => ?_
  have hF : frX [8] σ s := by rw [es]; exact frX.rf.sI (by show (8 : Nat) ∈ _; decide)
  have hR1 := hR.fr hF (by decide)
  have h0 : XSg (sgs p l view) 0 s := ⟨by omega, by rw [es, g_sI_s]; rfl, fun k hk => by omega⟩
  have go : ∀ (s0 : Int32) (w : Nat), two view = w → s0.toInt = w → uOk (m_X6_look_19 r s p1 s0) (fun _ σ' => frX [8] σ σ' ∧ XSg (sgs p l view) (m - two view) σ') := fun s0 w hw hs => by
    unfold m_X6_look_19
    by_cases q : two view ≤ m
    · exact (x_look23 hb h1 h5 (m - two view) FV 0 s s0 (FV_big (by omega)) (by omega) hR1 (by rw [hs]; omega) h0).mono (fun _ s' h => ⟨hF.tr h.1, h.2⟩)
    · show uOk (m_X6_look_23_s r (m_X6_look_23 r (FV - 1)) s p1 s0) _
      unfold m_X6_look_23_s
      refine ok_ite (fun _ => ok_r ⟨hF, by rw [show m - two view = 0 by omega]; exact h0⟩) (fun z => absurd (z_le.mpr (by rw [hR1.2.2.1, hs]; omega)) z)
  simp only [ez]
  refine ok_ite (fun q => ?_) (fun q0 => ok_ite (fun q => ?_) (fun q => ?_))
  · have q : (view : Int) = 0 := q
    unfold m_X6_look_14
    exact go 0 0 (by unfold two; rw [if_neg (by omega)]) rfl
  · have q : ¬ (view : Int) = 3 := q
    have q0 : ¬ (view : Int) = 0 := q0
    exact go 1 1 (by unfold two; rw [if_pos (by omega)]) rfl
  · have q : ¬ ¬ (view : Int) = 3 := q
    unfold m_X6_look_14
    exact go 0 0 (by unfold two; rw [if_neg (by omega)]) rfl
