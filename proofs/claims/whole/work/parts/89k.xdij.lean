/-! ===== the class's search for the nearest taker: what holds between its steps ===== -/
def uXi (a b : Nat) (c f : Nat → Nat → Int) (A B r s : Nat → Int) : Prop :=
  a ≤ 24 ∧ b ≤ 24 ∧ (∀ i j, i < a → j < b → 0 ≤ c i j ∧ c i j ≤ 2000000) ∧ (∀ i j, i < a → j < b → 0 ≤ f i j) ∧ (∀ i, i < a → uS (f i) b ≤ A i ∧ A i ≤ 64) ∧ (∀ j, j < b → uS (fun i => f i j) a ≤ B j ∧ 1 ≤ B j ∧ B j ≤ 64) ∧ (∀ i j, i < a → j < b → r i + s j ≤ c i j) ∧ (∀ i j, i < a → j < b → 0 < f i j → r i + s j = c i j) ∧ (∀ j, j < b → -2000000 ≤ s j ∧ s j ≤ 0) ∧ (∀ j, j < b → uS (fun i => f i j) a < B j → s j = 0) ∧ (∀ i, i < a → 0 ≤ r i ∧ r i ≤ 2000000)
def uDk (a b : Nat) (c f : Nat → Nat → Int) (B r s : Nat → Int) (giver tk lim K : Nat) (cur : Int) (ord : Nat → Nat) (R V T W : Nat → Int) (dn : Nat → Prop) : Prop :=
  (0 ≤ cur ∧ cur ≤ 2000000) ∧ (∀ i, i < a → R i = -1 ∨ (0 ≤ R i ∧ R i ≤ cur ∧ ord i ≤ K)) ∧
  (∀ i, i < a → R i ≠ -1 → (V i = -1 ∧ i = giver ∧ R i = 0) ∨ ∃ t : Nat, t < b ∧ V i = t ∧ dn t ∧ 0 < f i t ∧ R i = T t ∧ ∃ i' : Nat, i' < a ∧ W t = i' ∧ ord i' < ord i) ∧
  (giver < a ∧ R giver = 0 ∧ V giver = -1) ∧
  (∀ t, t < b → ∃ i : Nat, i < a ∧ W t = i ∧ R i ≠ -1 ∧ T t = R i + (c i t - r i - s t) ∧ (dn t → ord i < K)) ∧
  (∀ t i, t < b → i < a → R i ≠ -1 → T t ≤ R i + (c i t - r i - s t)) ∧
  (∀ t, t < b → dn t → uS (fun i => f i t) a = B t ∧ T t ≤ cur ∧ ∀ i, i < a → 0 < f i t → (t = tk → i < lim) → R i ≠ -1 ∧ R i ≤ T t) ∧
  (∀ t, t < b → ¬ dn t → cur ≤ T t)
theorem uDk.first {a b : Nat} {c f : Nat → Nat → Int} {A B r s : Nat → Int} {giver : Nat} {R V T W : Nat → Int} {dn : Nat → Prop} (hX : uXi a b c f A B r s) (hg : giver < a) (hR : ∀ i, i < a → R i = if i = giver then 0 else -1) (hV : V giver = -1) (hT : ∀ t, t < b → T t = c giver t - r giver - s t ∧ W t = giver) (hd : ∀ t, t < b → ¬ dn t) : uDk a b c f B r s giver b a 0 0 (fun _ => 0) R V T W dn := by
  obtain ⟨x1, x2, x3, x4, x5, x6, x7, x8, x9, x10, x11⟩ := hX
  have hRg : R giver = 0 := by rw [hR giver hg, if_pos rfl]
  have only : ∀ i, i < a → R i ≠ -1 → i = giver := fun i hi z => by
    have := hR i hi
    by_cases e : i = giver
    · exact e
    · rw [if_neg e] at this; exact absurd this z
  refine ⟨by omega, fun i hi => ?_, fun i hi z => Or.inl ?_, ⟨hg, hRg, hV⟩, fun t ht => ⟨giver, hg, (hT t ht).2, by omega, by rw [(hT t ht).1, hRg]; omega, fun y => absurd y (hd t ht)⟩, fun t i ht hi z => ?_, fun t ht y => absurd y (hd t ht), fun t ht _ => ?_⟩
  · have := hR i hi
    show R i = -1 ∨ (0 ≤ R i ∧ R i ≤ 0 ∧ 0 ≤ 0)
    split at this <;> omega
  · rw [only i hi z]; exact ⟨hV, rfl, hRg⟩
  · rw [only i hi z, (hT t ht).1, hRg]; omega
  · have := x7 giver t hg ht
    rw [(hT t ht).1]; omega
theorem uDk.skip {a b : Nat} {c f : Nat → Nat → Int} {B r s : Nat → Int} {giver tk i0 K : Nat} {cur : Int} {ord : Nat → Nat} {R V T W : Nat → Int} {dn : Nat → Prop} (h : uDk a b c f B r s giver tk i0 K cur ord R V T W dn) (hi0 : i0 < a) (htk : tk < b) (ht : T tk = cur) (z : ¬ 0 < f i0 tk ∨ R i0 ≠ -1) : uDk a b c f B r s giver tk (i0 + 1) K cur ord R V T W dn := by
  obtain ⟨d1, d2, d3, d4, d5, d6, d7, d8⟩ := h
  refine ⟨d1, d2, d3, d4, d5, d6, fun t ht' y => ⟨(d7 t ht' y).1, (d7 t ht' y).2.1, fun i hi w x => ?_⟩, d8⟩
  by_cases e : t = tk ∧ i = i0
  · rw [e.1, e.2] at w ⊢
    rcases z with z | z
    · exact absurd w z
    · refine ⟨z, ?_⟩
      have := d2 i0 hi0
      omega
  · exact (d7 t ht' y).2.2 i hi w (fun y => by have := x y; omega)
theorem uDk.more {a b : Nat} {c f : Nat → Nat → Int} {A B r s : Nat → Int} {giver tk i0 K : Nat} {cur : Int} {ord : Nat → Nat} {R V T W R' V' T' W' : Nat → Int} {dn : Nat → Prop} (hX : uXi a b c f A B r s) (h : uDk a b c f B r s giver tk i0 K cur ord R V T W dn) (hi0 : i0 < a) (htk : tk < b) (ht : T tk = cur) (dt : dn tk) (fp : 0 < f i0 tk) (rn : R i0 = -1)
    (eR : ∀ i, i < a → R' i = if i = i0 then cur else R i) (eV : ∀ i, i < a → V' i = if i = i0 then (tk : Int) else V i)
    (eT : ∀ t, t < b → ((dn t ∨ T t ≤ cur + (c i0 t - r i0 - s t)) ∧ T' t = T t ∧ W' t = W t) ∨ (¬ dn t ∧ cur + (c i0 t - r i0 - s t) < T t ∧ T' t = cur + (c i0 t - r i0 - s t) ∧ W' t = i0)) :
    uDk a b c f B r s giver tk (i0 + 1) K cur (fun i => if i = i0 then K else ord i) R' V' T' W' dn := by
  obtain ⟨x1, x2, x3, x4, x5, x6, x7, x8, x9, x10, x11⟩ := hX
  obtain ⟨d1, d2, d3, d4, d5, d6, d7, d8⟩ := h
  have ne : ∀ i, R i ≠ -1 → i ≠ i0 := fun i z e => z (by rw [e]; exact rn)
  have R0 : R' i0 = cur := by rw [eR i0 hi0, if_pos rfl]
  have Rk : ∀ i, i < a → i ≠ i0 → R' i = R i := fun i hi e => by rw [eR i hi, if_neg e]
  have Td : ∀ t, t < b → dn t → T' t = T t ∧ W' t = W t := fun t ht y => by
    rcases eT t ht with z | z
    · exact z.2
    · exact absurd y z.1
  have Tl : ∀ t, t < b → T' t ≤ T t := fun t ht => by
    rcases eT t ht with z | z
    · rw [z.2.1]; exact Int.le_refl _
    · omega
  refine ⟨d1, fun i hi => ?_, fun i hi z => ?_, ⟨d4.1, ?_⟩, fun t ht' => ?_, fun t i ht' hi z => ?_, fun t ht' y => ?_, fun t ht' y => ?_⟩
  · by_cases e : i = i0
    · rw [e, R0]
      show cur = -1 ∨ (0 ≤ cur ∧ cur ≤ cur ∧ (if i0 = i0 then K else ord i0) ≤ K)
      rw [if_pos rfl]; omega
    · rw [Rk i hi e]
      show R i = -1 ∨ (0 ≤ R i ∧ R i ≤ cur ∧ (if i = i0 then K else ord i) ≤ K)
      rw [if_neg e]; exact d2 i hi
  · by_cases e : i = i0
    · obtain ⟨i', a1, a2, a3, a4, a5⟩ := d5 tk htk
      refine Or.inr ⟨tk, htk, by rw [eV i hi, if_pos e], dt, by rw [e]; exact fp, by rw [e, R0, (Td tk htk dt).1, ht], i', a1, by rw [(Td tk htk dt).2, a2], ?_⟩
      show (if i' = i0 then K else ord i') < (if i = i0 then K else ord i)
      rw [if_neg (ne i' a3), if_pos e]; exact a5 dt
    · rw [Rk i hi e] at z ⊢
      rw [eV i hi, if_neg e]
      rcases d3 i hi z with y | ⟨t, b1, b2, b3, b4, b5, i', b6, b7, b8⟩
      · exact Or.inl y
      · refine Or.inr ⟨t, b1, b2, b3, b4, by rw [(Td t b1 b3).1]; exact b5, i', b6, by rw [(Td t b1 b3).2]; exact b7, ?_⟩
        obtain ⟨i2, c1, c2, c3, -⟩ := d5 t b1
        have e2 : i2 = i' := by omega
        show (if i' = i0 then K else ord i') < (if i = i0 then K else ord i)
        rw [if_neg (by rw [← e2]; exact ne i2 c3), if_neg e]; exact b8
  · by_cases e : giver = i0
    · rw [← e] at rn; omega
    · rw [Rk giver d4.1 e, eV giver d4.1, if_neg e]; exact d4.2
  · rcases eT t ht' with ⟨z1, z2, z3⟩ | ⟨z1, z2, z3, z4⟩
    · obtain ⟨i, a1, a2, a3, a4, a5⟩ := d5 t ht'
      refine ⟨i, a1, by rw [z3]; exact a2, by rw [Rk i a1 (ne i a3)]; exact a3, by rw [z2, Rk i a1 (ne i a3)]; exact a4, fun y => ?_⟩
      show (if i = i0 then K else ord i) < K
      rw [if_neg (ne i a3)]; exact a5 y
    · exact ⟨i0, hi0, z4, by rw [R0]; omega, by rw [R0, z3], fun y => absurd y z1⟩
  · by_cases e : i = i0
    · rw [e, R0]
      have := x7 i0 t hi0 ht'
      rcases eT t ht' with ⟨z1, z2, z3⟩ | ⟨z1, z2, z3, z4⟩
      · rw [z2]
        rcases z1 with y | y
        · have := (d7 t ht' y).2.1; omega
        · exact y
      · rw [z3]; exact Int.le_refl _
    · rw [Rk i hi e] at z ⊢
      have := d6 t i ht' hi z
      have := Tl t ht'
      omega
  · obtain ⟨e1, e2, e3⟩ := d7 t ht' y
    rw [(Td t ht' y).1]
    refine ⟨e1, e2, fun i hi w x => ?_⟩
    by_cases e : i = i0
    · rw [e, R0]
      refine ⟨by omega, ?_⟩
      by_cases tt : t = tk
      · rw [tt, ht]; exact Int.le_refl _
      · have := (e3 i hi w (fun y => absurd y tt)).1
        rw [e] at this
        exact absurd rn this
    · rw [Rk i hi e]
      exact e3 i hi w (fun y => by have := x y; omega)
  · have := d8 t ht' y
    have := x7 i0 t hi0 ht'
    rcases eT t ht' with ⟨z1, z2, z3⟩ | ⟨z1, z2, z3, z4⟩ <;> omega
/-- the nearest taker has no room: it is done -/
theorem uDk.next {a b : Nat} {c f : Nat → Nat → Int} {A B r s : Nat → Int} {giver tk' tk K : Nat} {cur : Int} {ord : Nat → Nat} {R V T W : Nat → Int} {dn dn' : Nat → Prop} (hX : uXi a b c f A B r s) (h : uDk a b c f B r s giver tk' a K cur ord R V T W dn) (htk : tk < b) (nd : ¬ dn tk) (cl : uS (fun i => f i tk) a = B tk) (mn : ∀ t, t < b → ¬ dn t → T tk ≤ T t) (op : ∃ j, j < b ∧ ¬ dn j ∧ uS (fun i => f i j) a < B j) (e : ∀ t, t < b → (dn' t ↔ dn t ∨ t = tk)) : uDk a b c f B r s giver tk 0 (K + 1) (T tk) ord R V T W dn' := by
  obtain ⟨x1, x2, x3, x4, x5, x6, x7, x8, x9, x10, x11⟩ := hX
  obtain ⟨d1, d2, d3, d4, d5, d6, d7, d8⟩ := h
  have c0 := d8 tk htk nd
  obtain ⟨j, hj, nj, oj⟩ := op
  have t1 := mn j hj nj
  have t2 := d6 j giver hj d4.1 (by omega)
  have t3 := x10 j hj oj
  have t4 := x3 giver j d4.1 hj
  have t5 := x11 giver d4.1
  refine ⟨by omega, fun i hi => ?_, fun i hi z => ?_, d4, fun t ht => ?_, d6, fun t ht y => ?_, fun t ht y => ?_⟩
  · have := d2 i hi; omega
  · rcases d3 i hi z with y | ⟨t, b1, b2, b3, b4⟩
    · exact Or.inl y
    · exact Or.inr ⟨t, b1, b2, (e t b1).mpr (Or.inl b3), b4⟩
  · obtain ⟨i, a1, a2, a3, a4, a5⟩ := d5 t ht
    refine ⟨i, a1, a2, a3, a4, fun _ => ?_⟩
    have := d2 i a1
    omega
  · rcases (e t ht).mp y with y | y
    · obtain ⟨e1, e2, e3⟩ := d7 t ht y
      exact ⟨e1, by omega, fun i hi w _ => e3 i hi w (fun _ => hi)⟩
    · rw [y]
      exact ⟨cl, Int.le_refl _, fun i hi w x => absurd (x rfl) (by omega)⟩
  · exact mn t ht (fun z => y ((e t ht).mpr (Or.inl z)))
/-- an open taker is reached: the rates change -/
theorem uDk.rates {a b : Nat} {c f : Nat → Nat → Int} {A B r s r' s' : Nat → Int} {giver tk' tk K : Nat} {cur : Int} {ord : Nat → Nat} {R V T W : Nat → Int} {dn : Nat → Prop} (hX : uXi a b c f A B r s) (h : uDk a b c f B r s giver tk' a K cur ord R V T W dn) (htk : tk < b) (nd : ¬ dn tk) (op : uS (fun i => f i tk) a < B tk) (mn : ∀ t, t < b → ¬ dn t → T tk ≤ T t)
    (er : ∀ i, i < a → (R i = -1 ∧ r' i = r i) ∨ (R i ≠ -1 ∧ r' i = r i + (T tk - R i))) (es : ∀ t, t < b → (¬ dn t ∧ s' t = s t) ∨ (dn t ∧ s' t = s t - (T tk - T t))) :
    uXi a b c f A B r' s' ∧ ∀ t i : Nat, t < b → i < a → (dn t ∨ t = tk) → W t = i → r' i + s' t = c i t := by
  obtain ⟨x1, x2, x3, x4, x5, x6, x7, x8, x9, x10, x11⟩ := hX
  obtain ⟨d1, d2, d3, d4, d5, d6, d7, d8⟩ := h
  have c0 := d8 tk htk nd
  have fe : ∀ i j, i < a → j < b → r' i + s' j ≤ c i j := fun i j hi hj => by
    have y1 := x7 i j hi hj
    have y2 := d2 i hi
    rcases er i hi with ⟨z1, z2⟩ | ⟨z1, z2⟩
    · rcases es j hj with ⟨w1, w2⟩ | ⟨w1, w2⟩
      · omega
      · have := (d7 j hj w1).2.1
        omega
    · have y3 := d6 j i hj hi z1
      rcases es j hj with ⟨w1, w2⟩ | ⟨w1, w2⟩
      · have := mn j hj w1
        omega
      · omega
  have st : s' tk = 0 := by
    have := x10 tk htk op
    rcases es tk htk with ⟨w1, w2⟩ | ⟨w1, w2⟩
    · omega
    · exact absurd w1 nd
  have rb : ∀ i, i < a → 0 ≤ r' i ∧ r' i ≤ 2000000 := fun i hi => by
    have y1 := fe i tk hi htk
    have y2 := x3 i tk hi htk
    have y3 := x11 i hi
    have y4 := d2 i hi
    rcases er i hi with ⟨z1, z2⟩ | ⟨z1, z2⟩ <;> omega
  have ti : ∀ i j, i < a → j < b → 0 < f i j → r' i + s' j = c i j := fun i j hi hj z => by
    have y1 := x8 i j hi hj z
    have y2 := fe i j hi hj
    have y4 := d2 i hi
    rcases es j hj with ⟨w1, w2⟩ | ⟨w1, w2⟩
    · have y5 := mn j hj w1
      rcases er i hi with ⟨z1, z2⟩ | ⟨z1, z2⟩
      · omega
      · have := d6 j i hj hi z1
        omega
    · have y3 := (d7 j hj w1).2.2 i hi z (fun _ => hi)
      rcases er i hi with ⟨z1, z2⟩ | ⟨z1, z2⟩
      · exact absurd z1 y3.1
      · have := d6 j i hj hi z1
        omega
  refine ⟨⟨x1, x2, x3, x4, x5, x6, fe, ti, fun j hj => ?_, fun j hj z => ?_, rb⟩, fun t i ht hi z w => ?_⟩
  · have y1 := x9 j hj
    rcases es j hj with ⟨w1, w2⟩ | ⟨w1, w2⟩
    · omega
    · obtain ⟨e1, e2, e3⟩ := d7 j hj w1
      have := x6 j hj
      obtain ⟨i, hi, fi⟩ := uS_pos (f := fun i => f i j) a (by omega)
      have y2 := ti i j hi hj fi
      have y3 := rb i hi
      have y4 := x3 i j hi hj
      omega
  · have y1 := x10 j hj z
    rcases es j hj with ⟨w1, w2⟩ | ⟨w1, w2⟩
    · omega
    · have := (d7 j hj w1).1
      omega
  · obtain ⟨i2, a1, a2, a3, a4, a5⟩ := d5 t ht
    have e : i2 = i := by omega
    rw [e] at a3 a4
    rcases er i hi with ⟨z1, z2⟩ | ⟨z1, z2⟩
    · exact absurd z1 a3
    · rcases es t ht with ⟨w1, w2⟩ | ⟨w1, w2⟩
      · rcases z with z | z
        · exact absurd z w1
        · rw [z] at a4 w2 ⊢
          omega
      · omega
/-- units have gone by a way: the rates still hold -/
theorem uXi.sent {a b : Nat} {c f gc : Nat → Nat → Int} {A B r s key : Nat → Int} {w : Int} {tk src : Nat} (hX : uXi a b c f A B r s) (hs : src < a) (ht : tk < b) (w0 : 0 < w) (w1 : w ≤ A src - uS (f src) b) (w2 : w ≤ B tk - uS (fun i => f i tk) a) (ag : uAg a b f (fun i j => r i + s j = c i j) key w tk src gc) : uXi a b c gc A B r s := by
  obtain ⟨x1, x2, x3, x4, x5, x6, x7, x8, x9, x10, x11⟩ := hX
  obtain ⟨g1, g2, g3, -, g5⟩ := ag
  refine ⟨x1, x2, x3, g3, fun i hi => ?_, fun j hj => ?_, x7, fun i j hi hj z => ?_, x9, fun j hj z => ?_, x11⟩
  · have := x5 i hi
    rw [g1 i hi]
    by_cases e : i = src
    · rw [if_pos e, e]; rw [e] at this; omega
    · rw [if_neg e]; omega
  · have := x6 j hj
    rw [g2 j hj]
    by_cases e : j = tk
    · rw [if_pos e, e]; rw [e] at this; omega
    · rw [if_neg e]; omega
  · rcases g5 i j hi hj z with y | y
    · exact x8 i j hi hj y
    · exact y
  · rw [g2 j hj] at z
    refine x10 j hj ?_
    split at z <;> omega
