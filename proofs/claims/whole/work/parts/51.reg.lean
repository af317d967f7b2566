/-! ===== regions: which group of the state a cell's place belongs to ===== -/
def rgX (k i : Nat) : Nat := if k < 18 then 0 else if k = 18 then 1 else if k = 19 then 2 else if k = 20 then 8 else if k < 25 then 4 else if k < 27 then 9 else if k = 27 then 5 else if k < 40 then 10 else if k = 40 then 6 else if k < 90 then 9 else if k < 95 then 5 else if k < 155 then 10
  else if k = 155 then (if i = 1 then 0 else if i = 8 then 4 else if i = 9 then 3 else if i = 15 then 6 else 12) else if k < 165 then 0 else if k = 165 then 2 else if k < 203 then 7 else if k < 205 then (if i = 0 then 4 else 8) else if k = 205 then 8 else if k = 206 then 9 else if k = 207 then 5 else 10
def rgXJ (k _i : Nat) : Nat := if k < 146 then 4 else if k < 148 then 8 else if k < 203 then 7 else if k < 205 then 4 else 10
def rgM (k i : Nat) : Nat := if k = 0 then (if i = 0 then 11 else if i = 4 then 0 else if i = 7 then 2 else if i < 14 then 7 else if i = 14 then 3 else if i < 21 then 7 else if i = 21 then 4 else if i = 23 then 8 else if i = 25 then 5 else if i = 40 then 6 else 10)
  else if k < 4 then 0 else if k = 4 then 1 else if k = 5 then 2 else if k < 9 then (if i < 500 then 7 else 4) else if k = 9 then 8 else if k = 10 then 5 else if k < 17 then 9 else if k < 23 then 10 else if k = 23 then 6 else 10
def frX (G : List Nat) (σ σ' : SG) : Prop := (∀ k i, rgX k i ∉ G → σ'.1 k i = σ.1 k i) ∧ (∀ k i, rgXJ k i ∉ G → σ'.2.1 k i = σ.2.1 k i) ∧ σ'.2.2 = σ.2.2
def frM (G : List Nat) (σ σ' : SG) : Prop := (∀ k i, rgM k i ∉ G → σ'.1 k i = σ.1 k i) ∧ (10 ∉ G → σ'.2.1 = σ.2.1) ∧ σ'.2.2 = σ.2.2
theorem frX.rf {G : List Nat} {σ : SG} : frX G σ σ := ⟨fun _ _ _ => rfl, fun _ _ _ => rfl, rfl⟩
theorem frM.rf {G : List Nat} {σ : SG} : frM G σ σ := ⟨fun _ _ _ => rfl, fun _ => rfl, rfl⟩
theorem frX.tr {G : List Nat} {σ σ1 σ2 : SG} (h : frX G σ σ1) (h2 : frX G σ1 σ2) : frX G σ σ2 :=
  ⟨fun k i q => (h2.1 k i q).trans (h.1 k i q), fun k i q => (h2.2.1 k i q).trans (h.2.1 k i q), h2.2.2.trans h.2.2⟩
theorem frM.tr {G : List Nat} {σ σ1 σ2 : SG} (h : frM G σ σ1) (h2 : frM G σ1 σ2) : frM G σ σ2 :=
  ⟨fun k i q => (h2.1 k i q).trans (h.1 k i q), fun q => (h2.2.1 q).trans (h.2.1 q), h2.2.2.trans h.2.2⟩
theorem frX.wk {G G2 : List Nat} {σ σ1 : SG} (h : frX G σ σ1) (q : ∀ g ∈ G, g ∈ G2) : frX G2 σ σ1 :=
  ⟨fun k i z => h.1 k i (fun y => z (q _ y)), fun k i z => h.2.1 k i (fun y => z (q _ y)), h.2.2⟩
theorem frM.wk {G G2 : List Nat} {σ σ1 : SG} (h : frM G σ σ1) (q : ∀ g ∈ G, g ∈ G2) : frM G2 σ σ1 :=
  ⟨fun k i z => h.1 k i (fun y => z (q _ y)), fun z => h.2.1 (fun y => z (q _ y)), h.2.2⟩
theorem frX.sI {G : List Nat} {σ σ1 : SG} {k i : Nat} {x : Int32} (h : frX G σ σ1) (q : rgX k i ∈ G) : frX G σ (sI σ1 k i x) :=
  ⟨fun k' i' z => by
    rw [g_sI]
    split
    · rename_i y
      rw [y.1, y.2] at z
      exact absurd q z
    · exact h.1 k' i' z, h.2.1, h.2.2⟩
theorem frX.sJ {G : List Nat} {σ σ1 : SG} {k i : Nat} {x : Int64} (h : frX G σ σ1) (q : rgXJ k i ∈ G) : frX G σ (sJ σ1 k i x) :=
  ⟨h.1, fun k' i' z => by
    rw [g_sJ]
    split
    · rename_i y
      rw [y.1, y.2] at z
      exact absurd q z
    · exact h.2.1 k' i' z, h.2.2⟩
theorem frM.sI {G : List Nat} {σ σ1 : SG} {k i : Nat} {x : Int32} (h : frM G σ σ1) (q : rgM k i ∈ G) : frM G σ (sI σ1 k i x) :=
  ⟨fun k' i' z => by
    rw [g_sI]
    split
    · rename_i y
      rw [y.1, y.2] at z
      exact absurd q z
    · exact h.1 k' i' z, h.2.1, h.2.2⟩
theorem frM.sJ {G : List Nat} {σ σ1 : SG} {k i : Nat} {x : Int64} (h : frM G σ σ1) (q : 10 ∈ G) : frM G σ (sJ σ1 k i x) :=
  ⟨h.1, fun z => absurd q z, h.2.2⟩
/-! ===== the rows of notes: n tunes, c r notes in row r (row 8 is the query), pitches P, lengths L ===== -/
def rcap (r : Nat) : Nat := if r = 8 then 12 else 24
def NB (n : Nat) (c : Nat → Nat) (P L : Nat → Nat → Int) : Prop := n ≤ 8 ∧ (∀ r, r < 9 → c r ≤ rcap r) ∧ (∀ r, r < 8 → n ≤ r → c r = 0) ∧ ∀ r j, r < 9 → j < c r → -1 ≤ P r j ∧ P r j ≤ 127 ∧ 1 ≤ L r j ∧ L r j ≤ 64
def uNX (n : Nat) (c : Nat → Nat) (P L : Nat → Nat → Int) (σ : SG) : Prop := (σ.1 155 1).toInt = n ∧ (∀ r, r < 9 → (σ.1 (156 + r) 2).toInt = c r) ∧ ∀ r j, r < 9 → j < c r → (σ.1 (2 * r) j).toInt = P r j ∧ (σ.1 (2 * r + 1) j).toInt = L r j
def uNM (n : Nat) (c : Nat → Nat) (P L : Nat → Nat → Int) (σ : SG) : Prop := (σ.1 0 4).toInt = n ∧ (∀ r, r < 9 → (σ.1 3 r).toInt = c r) ∧ ∀ r j, r < 9 → j < c r → (σ.1 1 (24 * r + j)).toInt = P r j ∧ (σ.1 2 (24 * r + j)).toInt = L r j
theorem uNX.fr {n : Nat} {c : Nat → Nat} {P L : Nat → Nat → Int} {G : List Nat} {σ σ' : SG} (h : uNX n c P L σ) (f : frX G σ σ') (q : 0 ∉ G) : uNX n c P L σ' := by
  refine ⟨by rw [f.1 155 1 q]; exact h.1, fun r hr => ?_, fun r j hr hj => ?_⟩
  · rw [f.1 _ _ (by rw [show rgX (156 + r) 2 = 0 by unfold rgX; grind]; exact q)]
    exact h.2.1 r hr
  · rw [f.1 _ _ (by rw [show rgX (2 * r) j = 0 by unfold rgX; grind]; exact q), f.1 _ _ (by rw [show rgX (2 * r + 1) j = 0 by unfold rgX; grind]; exact q)]
    exact h.2.2 r j hr hj
theorem uNM.fr {n : Nat} {c : Nat → Nat} {P L : Nat → Nat → Int} {G : List Nat} {σ σ' : SG} (h : uNM n c P L σ) (f : frM G σ σ') (q : 0 ∉ G) : uNM n c P L σ' := by
  refine ⟨by rw [f.1 0 4 q]; exact h.1, fun r hr => ?_, fun r j hr hj => ?_⟩
  · rw [f.1 _ _ (by rw [show rgM 3 r = 0 from rfl]; exact q)]
    exact h.2.1 r hr
  · rw [f.1 _ _ (by rw [show rgM 1 (24 * r + j) = 0 from rfl]; exact q), f.1 _ _ (by rw [show rgM 2 (24 * r + j) = 0 from rfl]; exact q)]
    exact h.2.2 r j hr hj
