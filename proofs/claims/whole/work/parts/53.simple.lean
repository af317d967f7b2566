/-! ===== note, query, forget ===== -/
theorem ok_eq {α : Type} {m m' : Option (α × SG)} {P : α → SG → Prop} (h : m = m') (q : uOk m' P) : uOk m P := by rw [h]; exact q
def isT (n : Nat) (t : Int32) : Prop := 0 ≤ t.toInt ∧ t.toInt < n
def pNote (n : Nat) (c : Nat → Nat) (P L : Nat → Nat → Int) (t p l : Int32) (NZ : Nat → (Nat → Nat) → (Nat → Nat → Int) → (Nat → Nat → Int) → SG → Prop) (F : SG → Prop) (v : Int32) (σ' : SG) : Prop :=
  (isT n t → pAdd n c P L t.toInt.toNat p.toInt l.toInt NZ F v σ') ∧ (¬ isT n t → v = -1 ∧ NZ n c P L σ' ∧ F σ')
theorem x_note {n : Nat} {c : Nat → Nat} {P L : Nat → Nat → Int} {σ : SG} {t p l : Int32} (hB : NB n c P L) (hX : uNX n c P L σ) : uOk (m_X11_note σ t p l) (pNote n c P L t p l uNX (frX [0] σ)) := by
  obtain ⟨v, e, hv⟩ := x_isTune hX t
  have hn := hB.1
  unfold m_X11_note m_X11_note_0
  rw [e, bi_some]
  refine ok_ite (fun q => ?_) (fun q => ok_r ?_)
  · have ht : isT n t := Classical.not_not.mp (fun z => q (hv.mpr z))
    refine ok_i ⟨ht.1, by have := ht.2; omega⟩ (ok_b (x_addNote hB hX (by rw [z_nat]; have := ht.2; omega)) (fun a s h => ok_r ⟨fun _ => h, fun z => absurd ht z⟩))
  · have ht : ¬ isT n t := hv.mp (Classical.not_not.mp q)
    exact ⟨fun z => absurd z ht, fun _ => ⟨rfl, hX, frX.rf⟩⟩
theorem pAdd.mono {n : Nat} {c : Nat → Nat} {P L : Nat → Nat → Int} {r : Nat} {p l : Int} {NZ : Nat → (Nat → Nat) → (Nat → Nat → Int) → (Nat → Nat → Int) → SG → Prop} {F F' : SG → Prop} {v : Int32} {σ' : SG} (h : pAdd n c P L r p l NZ F v σ') (q : F σ' → F' σ') : pAdd n c P L r p l NZ F' v σ' := ⟨h.1, h.2.1, q h.2.2⟩
theorem m_note {n : Nat} {c : Nat → Nat} {P L : Nat → Nat → Int} {σ : SG} {t p l : Int32} (hB : NB n c P L) (hX : uNM n c P L σ) : uOk (m_X12_note σ t p l) (pNote n c P L t p l uNM (frM [11, 0] σ)) := by
  obtain ⟨v, e, hv⟩ := m_isTune hX t
  have hn := hB.1
  unfold m_X12_note m_X12_note_0
  rw [e, bi_some]
  have hX1 : uNM n c P L (sI σ 0 0 0) := hX.fr m_code (by decide)
  have hF : frM [11, 0] σ (sI σ 0 0 0) := m_code.wk (by simp)
  refine ok_ite (fun q => ok_r ?_) (fun q => ?_)
  · have ht : ¬ isT n t := hv.mp q
    exact ⟨fun z => absurd z ht, fun _ => ⟨rfl, hX1, hF⟩⟩
  · have ht : isT n t := Classical.not_not.mp (fun z => q (hv.mpr z))
    have h8 : t.toInt.toNat < 8 := by have := ht.2; omega
    refine ok_b (m_add (r := t.toInt.toNat) hB hX1 (by omega) (by have := ht.1; omega) (by unfold rcap; rw [if_neg (by omega)]; rfl)) (fun a s h => ok_r ⟨fun _ => h.mono (fun f => hF.tr (f.wk (by simp))), fun z => absurd ht z⟩)
theorem x_query {n : Nat} {c : Nat → Nat} {P L : Nat → Nat → Int} {σ : SG} {p l : Int32} (hB : NB n c P L) (hX : uNX n c P L σ) : uOk (m_X11_query σ p l) (pAdd n c P L 8 p.toInt l.toInt uNX (frX [0] σ)) := by
  unfold m_X11_query m_X11_query_0
  exact ok_b (x_addNote hB hX (by omega)) (fun a s h => ok_r h)
theorem m_query {n : Nat} {c : Nat → Nat} {P L : Nat → Nat → Int} {σ : SG} {p l : Int32} (hB : NB n c P L) (hX : uNM n c P L σ) : uOk (m_X12_query σ p l) (pAdd n c P L 8 p.toInt l.toInt uNM (frM [11, 0] σ)) := by
  unfold m_X12_query m_X12_query_0
  refine ok_l fun s e => ?_
  rw [e]
  exact ok_b (m_add (r := 8) hB (hX.fr m_code (by decide)) (by omega) rfl rfl) (fun a s h => ok_r (h.mono (fun f => (m_code.wk (by simp)).tr (f.wk (by simp)))))
def pForget (n : Nat) (c : Nat → Nat) (P L : Nat → Nat → Int) (NZ : Nat → (Nat → Nat) → (Nat → Nat → Int) → (Nat → Nat → Int) → SG → Prop) (F : SG → Prop) (v : Int32) (σ' : SG) : Prop := v.toInt = c 8 ∧ NZ n (va_up c 8 0) P L σ' ∧ F σ'
theorem NB.forget {n : Nat} {c : Nat → Nat} {P L : Nat → Nat → Int} (h : NB n c P L) : NB n (va_up c 8 0) P L := by
  obtain ⟨h1, h2, h3, h4⟩ := h
  refine ⟨h1, fun r hr => ?_, fun r hr hn => ?_, fun r j hr hj => ?_⟩
  · unfold va_up; split
    · omega
    · exact h2 r hr
  · unfold va_up; split
    · rfl
    · exact h3 r hr hn
  · unfold va_up at hj; split at hj
    · omega
    · exact h4 r j hr hj
theorem x_forget {n : Nat} {c : Nat → Nat} {P L : Nat → Nat → Int} {σ : SG} (hX : uNX n c P L σ) : uOk (m_X11_forget σ) (pForget n c P L uNX (frX [0] σ)) := by
  unfold m_X11_forget m_X11_forget_0
  refine ok_l fun v ev => ok_l fun s e => ok_r ⟨by rw [ev]; exact hX.2.1 8 (by omega), ⟨?_, fun r hr => ?_, fun r j hr hj => ?_⟩, ?_⟩
  · rw [e, g_sI, if_neg (by omega)]; exact hX.1
  · rw [e, g_sI]
    unfold va_up
    by_cases h : r = 8
    · rw [if_pos ⟨by omega, rfl⟩, if_pos h]; rfl
    · rw [if_neg (by omega), if_neg h]; exact hX.2.1 r hr
  · rw [e, g_sI, if_neg (by omega), g_sI, if_neg (by omega)]
    refine hX.2.2 r j hr ?_
    unfold va_up at hj
    split at hj
    · omega
    · exact hj
  · rw [e]; exact frX.rf.sI (by show (0 : Nat) ∈ _; decide)
theorem m_forget {n : Nat} {c : Nat → Nat} {P L : Nat → Nat → Int} {σ : SG} (hX : uNM n c P L σ) : uOk (m_X12_forget σ) (pForget n c P L uNM (frM [11, 0] σ)) := by
  unfold m_X12_forget m_X12_forget_0
  refine ok_l fun s0 e0 => ?_
  have hX1 : uNM n c P L s0 := by rw [e0]; exact hX.fr m_code (by decide)
  have hF : frM [11, 0] σ s0 := by rw [e0]; exact m_code.wk (by simp)
  refine ok_i ⟨by decide, by decide⟩ (ok_l fun v ev => ok_i ⟨by decide, by decide⟩ (ok_l fun s e => ok_r ⟨by rw [ev]; exact hX1.2.1 8 (by omega), ⟨?_, fun r hr => ?_, fun r j hr hj => ?_⟩, ?_⟩))
  · rw [e, g_sI, if_neg (by omega)]; exact hX1.1
  · have e8 : ((8 : Int32)).toNatClampNeg = 8 := rfl
    rw [e, e8, g_sI]
    unfold va_up
    by_cases h : r = 8
    · rw [if_pos ⟨rfl, h⟩, if_pos h]; rfl
    · rw [if_neg (by omega), if_neg h]; exact hX1.2.1 r hr
  · rw [e, g_sI, if_neg (by omega), g_sI, if_neg (by omega)]
    refine hX1.2.2 r j hr ?_
    unfold va_up at hj
    split at hj
    · omega
    · exact hj
  · rw [e]; exact hF.sI (k := 3) (by show (0 : Nat) ∈ _; decide)
/-! ===== price ===== -/
def KB (K : Nat → Int) : Prop := ∀ k, k < 8 → 0 ≤ K k ∧ K k ≤ 1000
def KX (K : Nat → Int) (σ : SG) : Prop := ∀ k, k < 8 → (σ.1 18 k).toInt = K k
def uKM (K : Nat → Int) (σ : SG) : Prop := ∀ k, k < 8 → (σ.1 4 k).toInt = K k
theorem KX.fr {K : Nat → Int} {G : List Nat} {σ σ' : SG} (h : KX K σ) (f : frX G σ σ') (q : 1 ∉ G) : KX K σ' := fun k hk => by rw [f.1 18 k q]; exact h k hk
theorem uKM.fr {K : Nat → Int} {G : List Nat} {σ σ' : SG} (h : uKM K σ) (f : frM G σ σ') (q : 1 ∉ G) : uKM K σ' := fun k hk => by rw [f.1 4 k q]; exact h k hk
def sPrice (K : Nat → Int) (k v : Int) : Int × (Nat → Int) := if k < 0 ∨ 7 < k then (-1, K) else if v < 0 ∨ 1000 < v then (-2, K) else (K k.toNat, va_up K k.toNat v)
theorem KB.price {K : Nat → Int} {k v : Int} (h : KB K) : KB (sPrice K k v).2 := by
  unfold sPrice
  split
  · exact h
  · split
    · exact h
    · intro j hj
      show 0 ≤ va_up K k.toNat v j ∧ va_up K k.toNat v j ≤ 1000
      unfold va_up
      split
      · omega
      · exact h j hj
def pPrice (K : Nat → Int) (k v : Int) (KZ : (Nat → Int) → SG → Prop) (F : SG → Prop) (r : Int32) (σ' : SG) : Prop := r.toInt = (sPrice K k v).1 ∧ KZ (sPrice K k v).2 σ' ∧ F σ'
theorem x_price {K : Nat → Int} {σ : SG} {k v : Int32} (hX : KX K σ) : uOk (m_X11_price σ k v) (pPrice K k.toInt v.toInt KX (frX [1] σ)) := by
  have k0 : ((0 : Int32)).toInt = 0 := rfl
  have k8 : ((8 : Int32)).toInt = 8 := rfl
  have k1 : ((1000 : Int32)).toInt = 1000 := rfl
  unfold m_X11_price m_X11_price_0
  refine ok_ite (fun q => ok_r ?_) (fun q1 => ok_ite (fun q2 => ok_ite (fun q => ok_r ?_) (fun q3 => ok_ite (fun q4 => ok_i ?_ (ok_l fun a ea => ok_i ?_ (ok_l fun s e => ok_r ?_))) (fun q => ok_r ?_))) (fun q => ok_r ?_))
  all_goals simp only [z_lt, z_le, k0, k8, k1] at *
  · unfold pPrice sPrice; rw [if_pos (by omega)]; exact ⟨rfl, hX, frX.rf⟩
  · unfold pPrice sPrice; rw [if_neg (by omega), if_pos (by omega)]; exact ⟨rfl, hX, frX.rf⟩
  · omega
  · omega
  · unfold pPrice sPrice
    rw [if_neg (by omega), if_neg (by omega), e, ea, z_nat]
    refine ⟨hX _ (by omega), fun j hj => ?_, frX.rf.sI (by show (1 : Nat) ∈ _; decide)⟩
    show _ = va_up K k.toInt.toNat v.toInt j
    unfold va_up
    rw [g_sI]
    by_cases h : j = k.toInt.toNat
    · rw [if_pos ⟨rfl, h⟩, if_pos h]
    · rw [if_neg (fun z => h z.2), if_neg h]; exact hX j hj
  · unfold pPrice sPrice; rw [if_neg (by omega), if_pos (by omega)]; exact ⟨rfl, hX, frX.rf⟩
  · unfold pPrice sPrice; rw [if_pos (by omega)]; exact ⟨rfl, hX, frX.rf⟩
theorem m_price {K : Nat → Int} {σ : SG} {k v : Int32} (hX0 : uKM K σ) : uOk (m_X12_price σ k v) (pPrice K k.toInt v.toInt uKM (frM [11, 1] σ)) := by
  have k0 : ((0 : Int32)).toInt = 0 := rfl
  have k8 : ((7 : Int32)).toInt = 7 := rfl
  have k1 : ((1000 : Int32)).toInt = 1000 := rfl
  unfold m_X12_price m_X12_price_0
  refine ok_l fun s0 e0 => ?_
  have hX : uKM K s0 := by rw [e0]; exact hX0.fr m_code (by decide)
  have hF : frM [11, 1] σ s0 := by rw [e0]; exact m_code.wk (by simp)
  refine ok_ite (fun q => ok_r ?_) (fun q1 => ok_ite (fun q2 => ok_ite (fun q => ok_r ?_) (fun q3 => ok_ite (fun q4 => ok_i ?_ (ok_l fun a ea => ok_i ?_ (ok_l fun s e => ok_r ?_))) (fun q => ok_r ?_))) (fun q => ok_r ?_))
  all_goals simp only [z_lt, z_le, k0, k8, k1] at *
  · unfold pPrice sPrice; rw [if_pos (by omega)]; exact ⟨rfl, hX, hF⟩
  · unfold pPrice sPrice; rw [if_neg (by omega), if_pos (by omega)]; exact ⟨rfl, hX, hF⟩
  · omega
  · omega
  · unfold pPrice sPrice
    rw [if_neg (by omega), if_neg (by omega), e, ea, z_nat]
    refine ⟨hX _ (by omega), fun j hj => ?_, hF.sI (by show (1 : Nat) ∈ _; decide)⟩
    show _ = va_up K k.toInt.toNat v.toInt j
    unfold va_up
    rw [g_sI]
    by_cases h : j = k.toInt.toNat
    · rw [if_pos ⟨rfl, h⟩, if_pos h]
    · rw [if_neg (fun z => h z.2), if_neg h]; exact hX j hj
  · unfold pPrice sPrice; rw [if_neg (by omega), if_pos (by omega)]; exact ⟨rfl, hX, hF⟩
  · unfold pPrice sPrice; rw [if_pos (by omega)]; exact ⟨rfl, hX, hF⟩
