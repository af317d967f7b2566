/-! ===== families: what hangs together, and its least ===== -/
def Cl (E : Nat → Nat → Prop) (n r : Nat) : Nat → Nat → Prop
  | 0, t => t = r
  | k + 1, t => Cl E n r k t ∨ ∃ z, z < n ∧ Cl E n r k z ∧ E z t ∧ t < n
def Con (E : Nat → Nat → Prop) (n r t : Nat) : Prop := ∃ k, Cl E n r k t
theorem Con.rf {E : Nat → Nat → Prop} {n r : Nat} : Con E n r r := ⟨0, rfl⟩
theorem Con.step {E : Nat → Nat → Prop} {n r z t : Nat} (h : Con E n r z) (hz : z < n) (e : E z t) (ht : t < n) : Con E n r t := by
  obtain ⟨k, h⟩ := h
  exact ⟨k + 1, Or.inr ⟨z, hz, h, e, ht⟩⟩
theorem Con.tr {E : Nat → Nat → Prop} {n a b c : Nat} (h : Con E n a b) (q : Con E n b c) : Con E n a c := by
  obtain ⟨k, q⟩ := q
  induction k generalizing c with
  | zero => rw [show c = b from q]; exact h
  | succ k ih =>
    rcases q with q | ⟨z, hz, q, e, ht⟩
    · exact ih q
    · exact (ih q).step hz e ht
theorem Con.sy {E : Nat → Nat → Prop} (hE : ∀ x y, E x y → E y x) {n a b : Nat} (h : Con E n a b) : Con E n b a := by
  obtain ⟨k, h⟩ := h
  induction k generalizing b with
  | zero => rw [show b = a from h]; exact Con.rf
  | succ k ih =>
    rcases h with h | ⟨z, hz, h, e, ht⟩
    · exact ih h
    · exact (Con.rf.step ht (hE _ _ e) hz).tr (ih h)
theorem Con.lt {E : Nat → Nat → Prop} {n a b : Nat} (ha : a < n) (h : Con E n a b) : b < n := by
  obtain ⟨k, h⟩ := h
  induction k generalizing b with
  | zero => rw [show b = a from h]; exact ha
  | succ k ih =>
    rcases h with h | ⟨z, hz, h, e, ht⟩
    · exact ih h
    · exact ht
/-- f names each one's family by its least member -/
def HFm (E : Nat → Nat → Prop) (n : Nat) (f : Nat → Nat) : Prop := ∀ t, t < n → Con E n t (f t) ∧ ∀ u, Con E n t u → f t ≤ u
theorem HFm.uniq {E : Nat → Nat → Prop} {n : Nat} {f g : Nat → Nat} (h : HFm E n f) (q : HFm E n g) : ∀ t, t < n → f t = g t := fun t ht => Nat.le_antisymm ((h t ht).2 _ (q t ht).1) ((q t ht).2 _ (h t ht).1)
def fixN (h : Nat → Nat) : Nat → Nat
  | 0 => 0
  | k + 1 => fixN h k + if h k = k then 1 else 0
theorem fixN_eq {h g : Nat → Nat} : ∀ n, (∀ t, t < n → h t = g t) → fixN h n = fixN g n
  | 0, _ => rfl
  | n + 1, q => by
    show fixN h n + _ = fixN g n + _
    rw [fixN_eq n (fun t ht => q t (by omega)), q n (by omega)]
theorem fixN_le {h : Nat → Nat} : ∀ n, fixN h n ≤ n
  | 0 => Nat.le_refl _
  | n + 1 => by
    have := fixN_le (h := h) n
    show fixN h n + _ ≤ _
    split <;> omega
theorem fixN_same {h g : Nat → Nat} : ∀ n, (∀ t, t < n → (g t = t ↔ h t = t)) → fixN h n = fixN g n
  | 0, _ => rfl
  | n + 1, q => by
    show fixN h n + _ = fixN g n + _
    rw [fixN_same n (fun t ht => q t (by omega))]
    have := q n (by omega)
    split <;> split <;> first | rfl | (exfalso; omega)
theorem fixN_drop {h g : Nat → Nat} {m : Nat} (hm : h m = m) (gm : g m ≠ m) : ∀ n, m < n → (∀ t, t < n → t ≠ m → (g t = t ↔ h t = t)) → fixN h n = fixN g n + 1
  | 0, q, _ => by omega
  | n + 1, q, z => by
    show fixN h n + _ = fixN g n + _ + 1
    by_cases e : m = n
    · subst e
      rw [if_pos hm, if_neg gm, fixN_same m (fun t ht => z t (by omega) (by omega))]
    · rw [fixN_drop hm gm n (by omega) (fun t ht => z t (by omega))]
      have := z n (by omega) (by omega)
      split <;> split <;> first | omega | (exfalso; omega)
/-! the class's way: pairs one after the other, whole families joined -/
def CIf (E : Nat → Nat → Prop) (n a b : Nat) (h : Nat → Nat) : Prop := (∀ t, t < n → h t ≤ t ∧ h (h t) = h t ∧ Con E n t (h t)) ∧ ∀ x y, x < y → y < n → (x < a ∨ (x = a ∧ y < b)) → E x y → h x = h y
def jn (h : Nat → Nat) (p q : Nat) : Nat → Nat := fun t => if h t = p ∨ h t = q then (if q < p then q else p) else h t
theorem CIf.join {E : Nat → Nat → Prop} (hE : ∀ x y, E x y → E y x) {n a b : Nat} {h : Nat → Nat} (H : CIf E n a b h) (hab : a < b) (hb : b < n) (e : E a b) (hne : h a ≠ h b) : CIf E n a (b + 1) (jn h (h a) (h b)) ∧ fixN h n = fixN (jn h (h a) (h b)) n + 1 := by
  obtain ⟨h1, h2⟩ := H
  have ha := h1 a (by omega)
  have hb' := h1 b hb
  have cab : Con E n (h a) (h b) := ((ha.2.2.sy hE).tr (Con.rf.step (by omega) e hb)).tr hb'.2.2
  have hd : ∀ t, t < n → (h t = h a ∨ h t = h b) → Con E n t (if h b < h a then h b else h a) := fun t ht q => by
    have ht' := (h1 t ht).2.2
    rcases q with q | q
    · rw [q] at ht'
      split
      · exact ht'.tr cab
      · exact ht'
    · rw [q] at ht'
      split
      · exact ht'
      · exact ht'.tr (cab.sy hE)
  have hx : (if h b < h a then h b else h a) = h a ∨ (if h b < h a then h b else h a) = h b := by split <;> omega
  have hxx : h (if h b < h a then h b else h a) = (if h b < h a then h b else h a) := by
    rcases hx with q | q
    · rw [q]; exact ha.2.1
    · rw [q]; exact hb'.2.1
  have hle : (if h b < h a then h b else h a) ≤ h a ∧ (if h b < h a then h b else h a) ≤ h b := by split <;> omega
  refine ⟨⟨fun t ht => ?_, fun x y hxy hy hp hexy => ?_⟩, ?_⟩
  · have ht' := h1 t ht
    unfold jn
    by_cases q : h t = h a ∨ h t = h b
    · rw [if_pos q]
      refine ⟨by omega, ?_, hd t ht q⟩
      rw [hxx, if_pos hx]
    · rw [if_neg q]
      refine ⟨ht'.1, ?_, ht'.2.2⟩
      rw [ht'.2.1, if_neg q]
  · unfold jn
    by_cases q : x = a ∧ y = b
    · rw [q.1, q.2, if_pos (Or.inl rfl), if_pos (Or.inr rfl)]
    · rw [h2 x y hxy hy (by omega) hexy]
  · -- exactly the greater of the two is no longer its own
    have hm : (if h b < h a then h a else h b) = h a ∨ (if h b < h a then h a else h b) = h b := by split <;> omega
    have hgt : (if h b < h a then h b else h a) < (if h b < h a then h a else h b) := by split <;> omega
    have hmm : h (if h b < h a then h a else h b) = (if h b < h a then h a else h b) := by
      rcases hm with q | q
      · rw [q]; exact ha.2.1
      · rw [q]; exact hb'.2.1
    refine fixN_drop (m := if h b < h a then h a else h b) hmm ?_ n ?_ (fun t ht hne2 => ?_)
    · unfold jn
      rw [hmm, if_pos hm]
      omega
    · split <;> omega
    · unfold jn
      by_cases q : h t = h a ∨ h t = h b
      · rw [if_pos q]
        constructor
        · intro z
          rw [← z]
          exact hxx
        · intro z
          rw [z] at q
          split at hne2 <;> split <;> omega
      · rw [if_neg q]
theorem CIf.skip {E : Nat → Nat → Prop} {n a b : Nat} {h : Nat → Nat} (H : CIf E n a b h) (q : E a b → h a = h b) : CIf E n a (b + 1) h := ⟨H.1, fun x y hxy hy hp hexy => by
  by_cases z : x = a ∧ y = b
  · rw [z.1, z.2] at hexy ⊢
    exact q hexy
  · exact H.2 x y hxy hy (by omega) hexy⟩
theorem CIf.fin {E : Nat → Nat → Prop} (hE : ∀ x y, E x y → E y x) {n b : Nat} {h : Nat → Nat} (H : CIf E n n b h) : HFm E n h := by
  obtain ⟨h1, h2⟩ := H
  have hc : ∀ x y, x < n → y < n → E x y → h x = h y := fun x y hx hy e => by
    by_cases q : x < y
    · exact h2 x y q hy (by omega) e
    · by_cases q2 : y < x
      · exact (h2 y x q2 hx (by omega) (hE _ _ e)).symm
      · rw [show x = y by omega]
  refine fun t ht => ⟨(h1 t ht).2.2, fun u hu => ?_⟩
  have hul := Con.lt ht hu
  have : h u = h t := by
    obtain ⟨k, hu⟩ := hu
    clear hul
    induction k generalizing u with
    | zero => rw [show u = t from hu]
    | succ k ih =>
      rcases hu with hu | ⟨z, hz, hu, e, hul⟩
      · exact ih u hu
      · rw [← hc z u hz hul e]
        exact ih z hu
  rw [← this]
  exact (h1 u hul).1
/-! the model's way: rounds over all pairs -/
def Rt (E : Nat → Nat → Prop) (n r : Nat) : Prop := r < n ∧ ∀ u, Con E n r u → r ≤ u
def Dk (E : Nat → Nat → Prop) (n k : Nat) (f : Nat → Nat) : Prop := ∀ r, Rt E n r → ∀ t, t < n → Cl E n r k t → f t = r
def MIf (E : Nat → Nat → Prop) (n k a b : Nat) (f : Nat → Nat) : Prop := (∀ t, t < n → f t ≤ t ∧ Con E n t (f t)) ∧ Dk E n k f ∧ ∀ x y, y < x → x < n → (x < a ∨ (x = a ∧ y < b)) → E x y → ∀ r, Rt E n r → (Cl E n r k x → f y = r) ∧ (Cl E n r k y → f x = r)
def mup (f : Nat → Nat) (x y : Nat) : Nat → Nat := va_up (va_up f x (if f y < f x then f y else f x)) y (if f y < f x then f y else f x)
theorem MIf.put {E : Nat → Nat → Prop} (hE : ∀ x y, E x y → E y x) {n k a b : Nat} {f : Nat → Nat} (H : MIf E n k a b f) (hab : b < a) (ha : a < n) (e : E a b) : MIf E n k a (b + 1) (mup f a b) := by
  obtain ⟨h1, h2, h3⟩ := H
  have fa := h1 a ha
  have fb := h1 b (by omega)
  have cab : Con E n a b := Con.rf.step ha e (by omega)
  -- what is its root's stays so
  have keep : ∀ r, Rt E n r → ∀ t, t < n → Con E n r t → f t = r → mup f a b t = r := fun r hr t ht hc hf => by
    unfold mup va_up
    by_cases q : t = b
    · rw [if_pos q]
      rw [q] at hf hc
      have := hr.2 _ ((hc.tr (cab.sy hE)).tr fa.2)
      split <;> omega
    · rw [if_neg q]
      by_cases q2 : t = a
      · rw [if_pos q2]
        rw [q2] at hf hc
        have := hr.2 _ ((hc.tr cab).tr fb.2)
        split <;> omega
      · rw [if_neg q2]; exact hf
  refine ⟨fun t ht => ?_, fun r hr t ht hc => keep r hr t ht ⟨k, hc⟩ (h2 r hr t ht hc), fun x y hxy hx hp hexy r hr => ?_⟩
  · unfold mup va_up
    by_cases q : t = b
    · rw [if_pos q, q]
      split
      · exact fb
      · exact ⟨by omega, (cab.sy hE).tr fa.2⟩
    · rw [if_neg q]
      by_cases q2 : t = a
      · rw [if_pos q2, q2]
        split
        · exact ⟨by omega, cab.tr fb.2⟩
        · exact fa
      · rw [if_neg q2]; exact h1 t ht
  · by_cases q : x = a ∧ y = b
    · rw [q.1, q.2]
      have m : mup f a b b = (if f b < f a then f b else f a) := by unfold mup va_up; rw [if_pos rfl]
      have m2 : mup f a b a = (if f b < f a then f b else f a) := by unfold mup va_up; rw [if_neg (by omega), if_pos rfl]
      constructor
      · intro hc
        have hfa := h2 r hr a ha hc
        have := hr.2 _ ((Con.tr ⟨k, hc⟩ cab).tr fb.2)
        rw [m]
        split <;> omega
      · intro hc
        have hfb := h2 r hr b (by omega) hc
        have := hr.2 _ ((Con.tr ⟨k, hc⟩ (cab.sy hE)).tr fa.2)
        rw [m2]
        split <;> omega
    · have h4 := h3 x y hxy hx (by omega) hexy r hr
      exact ⟨fun hc => keep r hr y (by omega) (Con.step ⟨k, hc⟩ hx hexy (by omega)) (h4.1 hc), fun hc => keep r hr x hx (Con.step ⟨k, hc⟩ (by omega) (hE _ _ hexy) hx) (h4.2 hc)⟩
theorem MIf.skip {E : Nat → Nat → Prop} {n k a b : Nat} {f : Nat → Nat} (H : MIf E n k a b f) (hb : b < n) (ha : a < n) (q : E a b → f a = f b) : MIf E n k a (b + 1) f := ⟨H.1, H.2.1, fun x y hxy hx hp hexy r hr => by
  by_cases z : x = a ∧ y = b
  · rw [z.1, z.2] at hexy ⊢
    have hq := q hexy
    exact ⟨fun hc => by rw [← hq]; exact H.2.1 r hr a ha hc, fun hc => by rw [hq]; exact H.2.1 r hr b hb hc⟩
  · exact H.2.2 x y hxy hx (by omega) hexy r hr⟩
theorem MIf.round {E : Nat → Nat → Prop} (hE : ∀ x y, E x y → E y x) {n k b : Nat} {f : Nat → Nat} (H : MIf E n k n b f) : MIf E n (k + 1) 0 0 f := by
  obtain ⟨h1, h2, h3⟩ := H
  refine ⟨h1, fun r hr t ht hc => ?_, fun x y _ _ h => by omega⟩
  rcases hc with hc | ⟨z, hz, hc, e, -⟩
  · exact h2 r hr t ht hc
  · by_cases q : t < z
    · exact (h3 z t q hz (by omega) e r hr).1 hc
    · by_cases q2 : z < t
      · exact (h3 t z q2 ht (by omega) (hE _ _ e) r hr).2 hc
      · rw [show t = z by omega]; exact h2 r hr z hz hc
noncomputable def card (p : Nat → Prop) : Nat → Nat
  | 0 => 0
  | k + 1 => card p k + @ite Nat (p k) (Classical.propDecidable (p k)) 1 0
theorem card_le (p : Nat → Prop) : ∀ n, card p n ≤ n
  | 0 => Nat.le_refl _
  | n + 1 => by
    have := card_le p n
    show card p n + _ ≤ _
    split <;> omega
theorem card_mono {p q : Nat → Prop} (h : ∀ t, p t → q t) : ∀ n, card p n ≤ card q n
  | 0 => Nat.le_refl _
  | n + 1 => by
    have := card_mono h n
    show card p n + _ ≤ card q n + _
    have := h n
    split <;> split <;> first | omega | (rename_i a b; exact absurd (h n a) b)
theorem card_lt {p q : Nat → Prop} (h : ∀ t, p t → q t) {m : Nat} (hm : q m) (hp : ¬ p m) : ∀ n, m < n → card p n < card q n
  | 0, z => by omega
  | n + 1, z => by
    show card p n + _ < card q n + _
    by_cases e : m = n
    · subst e
      have := card_mono h m
      rw [if_neg hp, if_pos hm]
      omega
    · have := card_lt h hm hp n (by omega)
      split <;> split <;> first | omega | (rename_i a b; exact absurd (h n a) b)
/-- n rounds are enough -/
theorem Cl_n {E : Nat → Nat → Prop} {n r : Nat} (hr : r < n) : ∀ t, Con E n r t → Cl E n r n t := by
  have mono : ∀ k t, Cl E n r k t → Cl E n r (k + 1) t := fun k t h => Or.inl h
  have mono2 : ∀ k j t, k ≤ j → Cl E n r k t → Cl E n r j t := fun k j t hkj h => by
    induction j with
    | zero => rw [show k = 0 by omega] at h; exact h
    | succ j ih =>
      by_cases e : k = j + 1
      · rw [e] at h; exact h
      · exact mono j t (ih (by omega))
  -- it is closed at some step before n
  have hcl : ∃ j, j ≤ n ∧ ∀ t, Cl E n r (j + 1) t → Cl E n r j t := by
    refine Classical.byContradiction (fun hno => ?_)
    have big : ∀ k, k ≤ n → k < card (Cl E n r k) n + 0 ∨ k < card (Cl E n r k) n := by
      intro k
      induction k with
      | zero =>
        intro _
        have : card (fun _ => False) n < card (Cl E n r 0) n := card_lt (p := fun _ => False) (q := Cl E n r 0) (fun t h => h.elim) (m := r) rfl (fun h => h) n hr
        omega
      | succ k ih =>
        intro hk
        have h1 := ih (by omega)
        have h2 : ¬ ∀ t, Cl E n r (k + 1) t → Cl E n r k t := fun z => hno ⟨k, by omega, z⟩
        have h3 : ∃ t, Cl E n r (k + 1) t ∧ ¬ Cl E n r k t := Classical.byContradiction (fun z => h2 (fun t ht => Classical.byContradiction (fun y => z ⟨t, ht, y⟩)))
        obtain ⟨t, t1, t2⟩ := h3
        have tn : t < n := Con.lt hr ⟨_, t1⟩
        have := card_lt (mono k) t1 t2 n tn
        omega
    have := big n (Nat.le_refl _)
    have := card_le (Cl E n r n) n
    omega
  obtain ⟨j, hj, hc⟩ := hcl
  have all : ∀ k t, Cl E n r k t → Cl E n r j t := by
    intro k
    induction k with
    | zero => intro t h; exact mono2 0 j t (Nat.zero_le _) h
    | succ k ih =>
      intro t h
      rcases h with h | ⟨z, hz, h, e, ht⟩
      · exact ih t h
      · exact hc t (Or.inr ⟨z, hz, ih z h, e, ht⟩)
  rintro t ⟨k, h⟩
  exact mono2 j n t hj (all k t h)
theorem root_ex {E : Nat → Nat → Prop} {n : Nat} : ∀ t, t < n → ∃ r, Rt E n r ∧ Con E n t r := by
  intro t
  induction t using Nat.strongRecOn with
  | _ t ih =>
    intro ht
    by_cases q : ∃ u, Con E n t u ∧ u < t
    · obtain ⟨u, u1, u2⟩ := q
      obtain ⟨r, r1, r2⟩ := ih u u2 (by omega)
      exact ⟨r, r1, u1.tr r2⟩
    · exact ⟨t, ⟨ht, fun u hu => Nat.not_lt.mp (fun z => q ⟨u, hu, z⟩)⟩, Con.rf⟩
theorem MIf.fin {E : Nat → Nat → Prop} (hE : ∀ x y, E x y → E y x) {n a b : Nat} {f : Nat → Nat} (H : MIf E n n a b f) : HFm E n f := fun t ht => by
  obtain ⟨r, hr, hc⟩ := root_ex t ht
  have := H.2.1 r hr t ht (Cl_n hr.1 t (hc.sy hE))
  rw [this]
  exact ⟨hc, fun u hu => hr.2 u ((hc.sy hE).tr hu)⟩
