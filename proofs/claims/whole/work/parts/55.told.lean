/-! ===== fault, family, found, told ===== -/
def FaX (f : Int) (σ : SG) : Prop := (σ.1 155 9).toInt = f
def FaM (f : Int) (σ : SG) : Prop := (σ.1 0 14).toInt = f
theorem FaX.fr {f : Int} {G : List Nat} {σ σ' : SG} (h : FaX f σ) (g : frX G σ σ') (q : 3 ∉ G) : FaX f σ' := by unfold FaX; rw [g.1 155 9 q]; exact h
theorem FaM.fr {f : Int} {G : List Nat} {σ σ' : SG} (h : FaM f σ) (g : frM G σ σ') (q : 3 ∉ G) : FaM f σ' := by unfold FaM; rw [g.1 0 14 q]; exact h
theorem x_fault {f : Int} {σ : SG} (h : FaX f σ) : uOk (m_X11_fault σ) (fun r σ' => r.toInt = f ∧ σ' = σ) := ok_r ⟨h, rfl⟩
theorem m_fault {f : Int} {σ : SG} (h : FaM f σ) : uOk (m_X12_fault_ σ) (fun r σ' => r.toInt = f ∧ σ' = sI σ 0 0 0) := by
  unfold m_X12_fault_ m_X12_fault__0
  exact ok_l fun s e => ok_r ⟨by rw [e, g_sI, if_neg (by omega)]; exact h, e⟩
def FmX (k : Nat) (h : Nat → Int) (σ : SG) : Prop := (σ.1 155 15).toInt = k ∧ ∀ t, t < k → (σ.1 40 t).toInt = h t
def FmM (k : Nat) (h : Nat → Int) (σ : SG) : Prop := (σ.1 0 40).toInt = k ∧ ∀ t, t < k → (σ.1 23 t).toInt = h t
theorem FmX.fr {k : Nat} {h : Nat → Int} {G : List Nat} {σ σ' : SG} (f : FmX k h σ) (g : frX G σ σ') (q : 6 ∉ G) : FmX k h σ' := ⟨by rw [g.1 155 15 q]; exact f.1, fun t ht => by rw [g.1 40 t q]; exact f.2 t ht⟩
theorem FmM.fr {k : Nat} {h : Nat → Int} {G : List Nat} {σ σ' : SG} (f : FmM k h σ) (g : frM G σ σ') (q : 6 ∉ G) : FmM k h σ' := ⟨by rw [g.1 0 40 q]; exact f.1, fun t ht => by rw [g.1 23 t q]; exact f.2 t ht⟩
def sFamily (k : Nat) (h : Nat → Int) (t : Int) : Int := if t < 0 ∨ (k : Int) ≤ t then -1 else h t.toNat
theorem x_family {n : Nat} {c : Nat → Nat} {P L : Nat → Nat → Int} {k : Nat} {h : Nat → Int} {σ : SG} {t : Int32} (hn : n ≤ 8) (hk : k ≤ n) (hX : uNX n c P L σ) (f : FmX k h σ) : uOk (m_X11_family σ t) (fun r σ' => r.toInt = sFamily k h t.toInt ∧ σ' = σ) := by
  obtain ⟨v, e, hv⟩ := x_isTune hX t
  unfold m_X11_family m_X11_family_0
  rw [e, bi_some]
  refine ok_ite (fun q => ok_r ⟨?_, rfl⟩) (fun q => ok_ite (fun q2 => ok_i ?_ (ok_r ⟨?_, rfl⟩)) (fun q2 => ok_r ⟨?_, rfl⟩))
  · have := hv.mp q
    unfold sFamily
    rw [if_pos (by omega)]
    rfl
  all_goals
    have ht : 0 ≤ t.toInt ∧ t.toInt < n := Classical.not_not.mp (fun z => q (hv.mpr z))
    rw [z_lt, f.1] at q2
  · omega
  · unfold sFamily
    rw [if_neg (by omega), z_nat]
    exact f.2 _ (by omega)
  · unfold sFamily
    rw [if_pos (by omega)]
    rfl
theorem m_family {k : Nat} {h : Nat → Int} {σ : SG} {t : Int32} (hk : k ≤ 8) (f : FmM k h σ) : uOk (m_X12_family σ t) (fun r σ' => r.toInt = sFamily k h t.toInt ∧ σ' = sI σ 0 0 0) := by
  unfold m_X12_family m_X12_family_0
  refine ok_l fun s e => ?_
  have f1 : FmM k h s := by rw [e]; exact f.fr m_code (by decide)
  have k0 : ((0 : Int32)).toInt = 0 := rfl
  refine ok_ite (fun q => ok_r ⟨?_, e⟩) (fun q1 => ok_ite (fun q2 => ok_r ⟨?_, e⟩) (fun q2 => ok_i ?_ (ok_r ⟨?_, e⟩)))
  · rw [z_lt, k0] at q
    unfold sFamily
    rw [if_pos (by omega)]
    rfl
  all_goals
    rw [z_lt, k0] at q1
    rw [z_le, f1.1] at q2
  · unfold sFamily
    rw [if_pos (by omega)]
    rfl
  · omega
  · unfold sFamily
    rw [if_neg (by omega), z_nat]
    exact f1.2 _ (by omega)
/-! what was found: k rows of five -/
def FdX (k : Nat) (v : Nat → Nat → Int) (σ : SG) : Prop := (σ.1 207 0).toInt = k ∧ ∀ j, j < k → (0 ≤ (σ.1 27 j).toInt ∧ (σ.1 27 j).toInt < k) ∧ ∀ f, f < 5 → (σ.1 (90 + f) (σ.1 27 j).toNatClampNeg).toInt = v j f
def FdM (k : Nat) (v : Nat → Nat → Int) (σ : SG) : Prop := (σ.1 0 25).toInt = k ∧ ∀ j, j < k → ∀ f, f < 5 → (σ.1 10 (5 * j + f)).toInt = v j f
theorem rgX_val {f i : Nat} (h : f < 5) : rgX (90 + f) i = 5 := by unfold rgX; grind
theorem FdX.fr {k : Nat} {v : Nat → Nat → Int} {G : List Nat} {σ σ' : SG} (f : FdX k v σ) (g : frX G σ σ') (q : 5 ∉ G) : FdX k v σ' := ⟨by rw [g.1 207 0 q]; exact f.1, fun j hj => ⟨by rw [g.1 27 j q]; exact (f.2 j hj).1, fun i hi => by rw [g.1 27 j q, g.1 _ _ (by rw [rgX_val hi]; exact q)]; exact (f.2 j hj).2 i hi⟩⟩
theorem FdM.fr {k : Nat} {v : Nat → Nat → Int} {G : List Nat} {σ σ' : SG} (f : FdM k v σ) (g : frM G σ σ') (q : 5 ∉ G) : FdM k v σ' := ⟨by rw [g.1 0 25 q]; exact f.1, fun j hj i hi => by rw [g.1 10 _ q]; exact f.2 j hj i hi⟩
def isF (k : Nat) (a b : Int) : Prop := 0 ≤ a ∧ a < k ∧ 0 ≤ b ∧ b < 5
theorem x_found {k : Nat} {v : Nat → Nat → Int} {σ : SG} {a b : Int32} (hk : k ≤ 200) (f : FdX k v σ) : uOk (m_X11_found σ a b) (fun r σ' => σ' = σ ∧ (isF k a.toInt b.toInt → ∃ z : Int32, r = .inl z ∧ z.toInt = v a.toInt.toNat b.toInt.toNat) ∧ (¬ isF k a.toInt b.toInt → r = .inr true)) := by
  have k0 : ((0 : Int32)).toInt = 0 := rfl
  have k5 : ((5 : Int32)).toInt = 5 := rfl
  have no : ¬ isF k a.toInt b.toInt → uOk (m_X11_found_24 σ) (fun r σ' => σ' = σ ∧ (isF k a.toInt b.toInt → ∃ z : Int32, r = .inl z ∧ z.toInt = v a.toInt.toNat b.toInt.toNat) ∧ (¬ isF k a.toInt b.toInt → r = .inr true)) := fun h => ok_r ⟨rfl, fun z => absurd z h, fun _ => rfl⟩
  unfold m_X11_found m_X11_found_0
  refine ok_ite (fun q => no ?_) (fun q1 => ok_ite (fun q => no ?_) (fun q2 => ok_ite (fun q => no ?_) (fun q3 => ok_ite (fun q4 => ?_) (fun q => no ?_))))
  · rw [z_lt, k0] at q; unfold isF; omega
  · rw [z_le, f.1] at q; unfold isF; omega
  · rw [z_lt, k0] at q; unfold isF; omega
  · rw [z_lt, k0] at q1 q3
    rw [z_le, f.1] at q2
    rw [z_lt, k5] at q4
    obtain ⟨h1, h2⟩ := f.2 a.toInt.toNat (by omega)
    unfold m_X1_look m_X1_look_0
    rw [z_nat a]
    refine ok_b (Q := fun z s => s = σ ∧ z.toInt = v a.toInt.toNat b.toInt.toNat) (ok_i (by omega) (ok_i (by omega) (ok_i (by omega) (ok_r ⟨rfl, ?_⟩)))) (fun z s h => ok_r ⟨h.1, fun _ => ⟨z, rfl, h.2⟩, fun y => absurd (by unfold isF; omega) y⟩)
    rw [z_nat b]
    exact h2 _ (by omega)
  · rw [z_lt, k5] at q; unfold isF; omega
theorem m_found {k : Nat} {v : Nat → Nat → Int} {σ : SG} {a b : Int32} (hk : k ≤ 200) (f : FdM k v σ) : uOk (m_X12_found σ a b) (fun r σ' => (isF k a.toInt b.toInt → r.toInt = v a.toInt.toNat b.toInt.toNat ∧ σ' = sI σ 0 0 0) ∧ (¬ isF k a.toInt b.toInt → σ' = sI σ 0 0 1)) := by
  have k0 : ((0 : Int32)).toInt = 0 := rfl
  have k4 : ((4 : Int32)).toInt = 4 := rfl
  have k5 : ((5 : Int32)).toInt = 5 := rfl
  have no : ¬ isF k a.toInt b.toInt → uOk (m_X12_found_26 σ a b) (fun r σ' => (isF k a.toInt b.toInt → r.toInt = v a.toInt.toNat b.toInt.toNat ∧ σ' = sI σ 0 0 0) ∧ (¬ isF k a.toInt b.toInt → σ' = sI σ 0 0 1)) := fun h => by
    unfold m_X12_found_26 m_X12_found_27
    exact ok_l fun s e => ok_ite (fun q => ok_r ⟨fun z => absurd z h, fun _ => e⟩) (fun q => absurd (by rw [e, g_sI_s]; decide) q)
  unfold m_X12_found m_X12_found_0
  refine ok_ite (fun q => no ?_) (fun q1 => ok_ite (fun q => no ?_) (fun q2 => ok_ite (fun q => no ?_) (fun q3 => ok_ite (fun q => no ?_) (fun q4 => ?_))))
  · rw [z_lt, k0] at q; unfold isF; omega
  · rw [z_le, f.1] at q; unfold isF; omega
  · rw [z_lt, k0] at q; unfold isF; omega
  · rw [z_lt, k4] at q; unfold isF; omega
  · rw [z_lt, k0] at q1 q3
    rw [z_le, f.1] at q2
    rw [z_lt, k4] at q4
    have h5 : (5 * a).toInt = 5 * a.toInt := by rw [z_mul] <;> rw [k5] <;> omega
    have h6 : (5 * a + b).toInt = 5 * a.toInt + b.toInt := by rw [z_add, h5] <;> rw [h5] <;> omega
    unfold m_X12_found_27
    refine ok_l fun s e => ok_ite (fun q => absurd (by rw [e]; exact g_sI_s) q) (fun q => ok_i (by omega) (ok_r ⟨fun _ => ⟨?_, e⟩, fun y => absurd (by unfold isF; omega) y⟩))
    rw [e, g_sI, if_neg (by omega), z_nat, h6, show (5 * a.toInt + b.toInt).toNat = 5 * a.toInt.toNat + b.toInt.toNat by omega]
    exact f.2 _ (by omega) _ (by omega)
theorem m_thrown {σ : SG} {x : Int32} : m_X12_thrown (sI σ 0 0 x) = some (x, sI σ 0 0 x) := by
  unfold m_X12_thrown m_X12_thrown_0
  rw [g_sI_s]
/-! told -/
def usumN (c : Nat → Nat) : Nat → Nat
  | 0 => 0
  | k + 1 => usumN c k + c k
theorem sumN_b {c : Nat → Nat} (h : ∀ r, r < 8 → c r ≤ 24) : ∀ k, k ≤ 8 → usumN c k ≤ 24 * k
  | 0, _ => Nat.le_refl _
  | k + 1, q => by
    have h1 := sumN_b h k (by omega)
    have h2 := h k (by omega)
    show usumN c k + c k ≤ _
    omega
theorem x_count {n : Nat} {c : Nat → Nat} {P L : Nat → Nat → Int} {σ : SG} (hB : NB n c P L) (hX : uNX n c P L σ) : ∀ (d fuel k : Nat) (l1 l2 : Int32), d < fuel → n = k + d → l1.toInt = usumN c k → l2.toInt = k → uOk (m_X11_countNotes_4 fuel σ l1 l2) (fun r σ' => r.toInt = usumN c n ∧ σ' = σ) := by
  have hn := hB.1
  have hc : ∀ r, r < 8 → c r ≤ 24 := fun r hr => by have := hB.2.1 r (by omega); unfold rcap at this; rw [if_neg (by omega)] at this; exact this
  intro d
  induction d with
  | zero =>
    intro fuel k l1 l2 hf hk h1 h2
    cases fuel with
    | zero => omega
    | succ fuel =>
      show uOk (m_X11_countNotes_4_s _ σ l1 l2) _
      unfold m_X11_countNotes_4_s
      exact ok_ite (fun _ => ok_r ⟨by rw [h1, hk]; rfl, rfl⟩) (fun q => absurd (z_le.mpr (by rw [hX.1, h2]; omega)) q)
  | succ d ih =>
    intro fuel k l1 l2 hf hk h1 h2
    cases fuel with
    | zero => omega
    | succ fuel =>
      show uOk (m_X11_countNotes_4_s _ σ l1 l2) _
      unfold m_X11_countNotes_4_s
      refine ok_ite (fun q => absurd (z_le.mp q) (by rw [hX.1, h2]; omega)) (fun _ => ok_i (by omega) (ok_l fun v ev => ok_l fun w ew => ?_))
      have e2 : l2.toNatClampNeg = k := by rw [z_nat, h2]; omega
      have h3 := hX.2.1 k (by omega)
      have h4 := sumN_b hc k (by omega)
      have h5 := hc k (by omega)
      refine ih fuel (k + 1) v w (by omega) (by omega) ?_ (by rw [ew, z_add1 (by omega), h2]; rfl)
      rw [ev, e2, z_add (by rw [h1, h3]; omega) (by rw [h1, h3]; omega), h1, h3]
      rfl
theorem m_count {n : Nat} {c : Nat → Nat} {P L : Nat → Nat → Int} {σ : SG} (hB : NB n c P L) (hX : uNM n c P L σ) : ∀ (d fuel k : Nat) (l1 l2 : Int32), d < fuel → n = k + d → l1.toInt = usumN c k → l2.toInt = k → uOk (m_X12_told_49 fuel σ l1 l2) (fun r σ' => r.toInt = usumN c n ∧ σ' = σ) := by
  have hn := hB.1
  have hc : ∀ r, r < 8 → c r ≤ 24 := fun r hr => by have := hB.2.1 r (by omega); unfold rcap at this; rw [if_neg (by omega)] at this; exact this
  intro d
  induction d with
  | zero =>
    intro fuel k l1 l2 hf hk h1 h2
    cases fuel with
    | zero => omega
    | succ fuel =>
      show uOk (m_X12_told_49_s _ σ l1 l2) _
      unfold m_X12_told_49_s
      exact ok_ite (fun _ => ok_r ⟨by rw [h1, hk]; rfl, rfl⟩) (fun q => absurd (z_le.mpr (by rw [hX.1, h2]; omega)) q)
  | succ d ih =>
    intro fuel k l1 l2 hf hk h1 h2
    cases fuel with
    | zero => omega
    | succ fuel =>
      show uOk (m_X12_told_49_s _ σ l1 l2) _
      unfold m_X12_told_49_s
      refine ok_ite (fun q => absurd (z_le.mp q) (by rw [hX.1, h2]; omega)) (fun _ => ok_i (by omega) (ok_l fun v ev => ok_l fun w ew => ?_))
      have e2 : l2.toNatClampNeg = k := by rw [z_nat, h2]; omega
      have h3 := hX.2.1 k (by omega)
      have h4 := sumN_b hc k (by omega)
      have h5 := hc k (by omega)
      refine ih fuel (k + 1) v w (by omega) (by omega) ?_ (by rw [ew, z_add1 (by omega), h2]; rfl)
      rw [ev, e2, z_add (by rw [h1, h3]; omega) (by rw [h1, h3]; omega), h1, h3]
      rfl
def sTold (n : Nat) (c : Nat → Nat) (tc fk : Nat) (w : Int) : Int := if w = 0 then n else if w = 1 then usumN c n else if w = 2 then c 8 else if w = 3 then tc else if w = 4 then fk else -2
theorem x_told {n : Nat} {c : Nat → Nat} {P L : Nat → Nat → Int} {tc fk : Nat} {t : Nat → Int} {v : Nat → Nat → Int} {σ : SG} {w : Int32} (hB : NB n c P L) (hX : uNX n c P L σ) (hT : TX tc t σ) (hF : FdX fk v σ) : uOk (m_X11_told σ w) (fun r σ' => r.toInt = sTold n c tc fk w.toInt ∧ σ' = σ) := by
  have hn := hB.1
  have e (k : Int32) : w = k ↔ w.toInt = k.toInt := z_eq
  unfold m_X11_told m_X11_told_0 sTold
  simp only [e]
  refine ok_ite (fun q => ok_r ⟨?_, rfl⟩) (fun q0 => ok_ite (fun q => ?_) (fun q1 => ok_ite (fun q => ok_r ⟨?_, rfl⟩) (fun q2 => ok_ite (fun q => ok_r ⟨?_, rfl⟩) (fun q3 => ok_ite (fun q => ok_r ⟨?_, rfl⟩) (fun q4 => ok_r ⟨?_, rfl⟩)))))
  · rw [if_pos (show w.toInt = 0 from q)]; exact hX.1
  · rw [if_neg (show ¬ w.toInt = 0 from q0), if_pos (show w.toInt = 1 from q)]
    unfold m_X11_countNotes m_X11_countNotes_0
    exact ok_b (x_count hB hX n FV 0 0 0 (FV_big (by omega)) (by omega) rfl rfl) (fun a s h => ok_r h)
  · rw [if_neg (show ¬ w.toInt = 0 from q0), if_neg (show ¬ w.toInt = 1 from q1), if_pos (show w.toInt = 2 from q)]; exact hX.2.1 8 (by omega)
  · rw [if_neg (show ¬ w.toInt = 0 from q0), if_neg (show ¬ w.toInt = 1 from q1), if_neg (show ¬ w.toInt = 2 from q2), if_pos (show w.toInt = 3 from q)]; exact hT.1
  · rw [if_neg (show ¬ w.toInt = 0 from q0), if_neg (show ¬ w.toInt = 1 from q1), if_neg (show ¬ w.toInt = 2 from q2), if_neg (show ¬ w.toInt = 3 from q3), if_pos (show w.toInt = 4 from q)]; exact hF.1
  · rw [if_neg (show ¬ w.toInt = 0 from q0), if_neg (show ¬ w.toInt = 1 from q1), if_neg (show ¬ w.toInt = 2 from q2), if_neg (show ¬ w.toInt = 3 from q3), if_neg (show ¬ w.toInt = 4 from q4)]; rfl
theorem m_told {n : Nat} {c : Nat → Nat} {P L : Nat → Nat → Int} {tc fk : Nat} {t : Nat → Int} {v : Nat → Nat → Int} {σ : SG} {w : Int32} (hB : NB n c P L) (hX0 : uNM n c P L σ) (hT0 : uTM tc t σ) (hF0 : FdM fk v σ) : uOk (m_X12_told σ w) (fun r σ' => r.toInt = sTold n c tc fk w.toInt ∧ σ' = sI σ 0 0 0) := by
  have hn := hB.1
  have e (k : Int32) : w = k ↔ w.toInt = k.toInt := z_eq
  unfold m_X12_told m_X12_told_0 sTold
  refine ok_l fun s es => ?_
  have hX : uNM n c P L s := by rw [es]; exact hX0.fr m_code (by decide)
  have hT : uTM tc t s := by rw [es]; exact hT0.fr m_code (by decide)
  have hF : FdM fk v s := by rw [es]; exact hF0.fr m_code (by decide)
  simp only [e]
  refine ok_ite (fun q => ok_r ⟨?_, es⟩) (fun q0 => ok_ite (fun q => ?_) (fun q1 => ok_ite (fun q => ok_i ⟨by decide, by decide⟩ (ok_r ⟨?_, es⟩)) (fun q2 => ok_ite (fun q => ok_r ⟨?_, es⟩) (fun q3 => ok_ite (fun q => ok_r ⟨?_, es⟩) (fun q4 => ok_r ⟨?_, es⟩)))))
  · rw [if_pos (show w.toInt = 0 from q)]; exact hX.1
  · rw [if_neg (show ¬ w.toInt = 0 from q0), if_pos (show w.toInt = 1 from q)]
    exact (m_count hB hX n FV 0 0 0 (FV_big (by omega)) (by omega) rfl rfl).mono (fun a s h => ⟨h.1, h.2.trans es⟩)
  · rw [if_neg (show ¬ w.toInt = 0 from q0), if_neg (show ¬ w.toInt = 1 from q1), if_pos (show w.toInt = 2 from q)]; exact hX.2.1 8 (by omega)
  · rw [if_neg (show ¬ w.toInt = 0 from q0), if_neg (show ¬ w.toInt = 1 from q1), if_neg (show ¬ w.toInt = 2 from q2), if_pos (show w.toInt = 3 from q)]; exact hT.1
  · rw [if_neg (show ¬ w.toInt = 0 from q0), if_neg (show ¬ w.toInt = 1 from q1), if_neg (show ¬ w.toInt = 2 from q2), if_neg (show ¬ w.toInt = 3 from q3), if_pos (show w.toInt = 4 from q)]; exact hF.1
  · rw [if_neg (show ¬ w.toInt = 0 from q0), if_neg (show ¬ w.toInt = 1 from q1), if_neg (show ¬ w.toInt = 2 from q2), if_neg (show ¬ w.toInt = 3 from q3), if_neg (show ¬ w.toInt = 4 from q4)]; rfl
