abbrev rm_kg_fill : Room := { frames := 0, cells := 0, slots := 0, locals := 0 }
set_option maxHeartbeats 4000000 in
set_option maxRecDepth 100000 in
theorem kg_fill (l : Launch) (Z : ZT) {F : State → Prop} (b n q N : Nat) (hp : Nat → va_E) (f0 : Nat → Int32) (v : Int32) (hq : q < n) (h0 : hp q = .inl (zc Z 0, N, .inl f0)) (hN : N < 2 ^ 31) : Met l yJ7_fill_53178 wsJ7_fill_53178 rm_kg_fill (va_Pc [.ref (b + q), .int v] (gx (zD Z) vwCl (tysX Z) F b n hp)) (gQ (zD Z) vwCl b n (va_up hp q (.inl (zc Z 0, N, .inl (fun i => if i < N then v else f0 i))))) 0 0 (gA b) := by
  refine Met.ofW (cc := cJ7_fill_53178) (maxL := 4) (ret := none) (by decide) rfl ?_
  intro p e s m args below meth c s₁ B hml hv
  obtain ⟨rfl, hF, hG, hK⟩ := hv
  have hx := B.exec
  have hb := B.bytes
  have hr := B.returns
  have hlocks := B.notSynchronized
  have hS : va_S (gA b) s.heap s.heap [] := va_S.rf
  have hl := lv_entry ([.ref (b + q), .int v]) (n := 4) (Nat.le_of_ble_eq_true rfl)
  rw [lg_entry_eq]
  generalize (lg_sl ([.ref (b + q), .int v]) ++ List.replicate (4 - (lg_sl ([.ref (b + q), .int v])).length) Slot.unset).toArray = ls at hl ⊢
  have hl : lv_has ls 4 [(0, .ref (b + q)), (1, .int v)] := hl
  refine lv_iconst (v := 0) hx hb dJ7_fill_53178_0 (by decide) ?_
  refine lv_istore_n (lv' := [(2, .int 0), (0, .ref (b + q)), (1, .int v)]) hx hb dJ7_fill_53178_1 rfl hl (by decide) rfl (fun ls hl => ?_)
  refine lv_aload_n hx hb dJ7_fill_53178_2 rfl (lv_at hl 1 rfl) ?_
  refine gz_alen (v := nI N) hx hb hK hG q 0 hq h0 rfl rfl dJ7_fill_53178_3 ?_
  refine lv_istore_n (lv' := [(3, .int (nI N)), (2, .int 0), (0, .ref (b + q)), (1, .int v)]) hx hb dJ7_fill_53178_4 rfl hl (by decide) rfl (fun ls hl => ?_)
  have loop : ∀ (k i : Nat) (f : Nat → Int32), i + k = N → (∀ j, f j = if j < i then v else f0 j) → ∀ (x : Int32), x = nI i → ∀ (H : Heap) (locs : List Loc), gw (zD Z) vwCl b n (va_up hp q (.inl (zc Z 0, N, .inl f))) H → va_S (gA b) s.heap H locs → ∀ (ls : Array Slot), lv_has ls 4 [(0, .ref (b + q)), (1, .int v), (2, .int x), (3, .int (nI N))] → W p l e (headSpec wsJ7_fill_53178 rm_kg_fill).room s m [Value.ref (b + q), Value.int v].toArray below meth c H locs 0 0 (MQ below (gQ (zD Z) vwCl b n (va_up hp q (.inl (zc Z 0, N, .inl (fun i => if i < N then v else f0 i))))) [Value.ref (b + q), Value.int v].toArray s 0 0 (gA b)) (F0 m 5 ls []) := by
    intro k
    induction k with
    | zero =>
      intro i f hi hf x ex H locs hG hS ls hl
      refine lv_iload_n hx hb dJ7_fill_53178_5 rfl (lv_at hl 2 rfl) ?_
      refine lv_iload_n hx hb dJ7_fill_53178_6 rfl (lv_at hl 3 rfl) ?_
      have hle : nI N ≤ x := by
        rw [ex]
        exact nI_le (by omega) (by omega)
      refine lv_icmp_ge (tgt := 20) hx hb dJ7_fill_53178_7 (by decide) (fun _ => ?_) (fun z => absurd hle z)
      have ef : f = fun i => if i < N then v else f0 i := by
        funext j
        rw [hf j, show i = N by omega]
      rw [ef] at hG
      exact gz_ret hx hb hr hlocks hG hS dJ7_fill_53178_20
    | succ k ih =>
      intro i f hi hf x ex H locs hG hS ls hl
      refine lv_iload_n hx hb dJ7_fill_53178_5 rfl (lv_at hl 2 rfl) ?_
      refine lv_iload_n hx hb dJ7_fill_53178_6 rfl (lv_at hl 3 rfl) ?_
      have hgt : ¬ nI N ≤ x := by
        rw [ex]
        exact nI_ge (by omega) (by omega)
      refine lv_icmp_ge (tgt := 20) hx hb dJ7_fill_53178_7 (by decide) (fun z => absurd z hgt) (fun _ => ?_)
      refine lv_aload_n hx hb dJ7_fill_53178_10 rfl (lv_at hl 0 rfl) ?_
      refine lv_iload_n hx hb dJ7_fill_53178_11 rfl (lv_at hl 2 rfl) ?_
      refine lv_iload_n hx hb dJ7_fill_53178_12 rfl (lv_at hl 1 rfl) ?_
      refine gz_iast (f := f) hx hb hK hG hS q 0 hq (va_up_self _ _ _) rfl (by rw [ex]; exact vp_in_nI (by omega) (by omega)) dJ7_fill_53178_13 (fun H locs hG hS => ?_)
      rw [bx_uu] at hG
      obtain ⟨y, ey⟩ : ∃ y : Int32, y = x + 1 := ⟨_, rfl⟩
      refine lv_iinc (v := y) (lv' := [(2, .int y), (0, .ref (b + q)), (1, .int v), (3, .int (nI N))]) hx hb dJ7_fill_53178_14 hl (k := 2) rfl (by rw [ey]; rfl) (by decide) rfl (fun ls hl => ?_)
      refine lv_goto (tgt := 5) hx hb dJ7_fill_53178_17 (by decide) ?_
      refine ih (i + 1) _ (by omega) (fun j => ?_) y (by rw [ey, ex]; exact nI_1 i) H locs hG hS ls (lv_sub hl [1, 2, 0, 3] rfl)
      rw [ex, nI_clamp (by omega)]
      by_cases hj : j = i
      · subst hj
        simp [upd]
      · simp only [upd, if_neg hj]
        rw [hf j]
        by_cases h2 : j < i
        · rw [if_pos h2, if_pos (by omega)]
        · rw [if_neg h2, if_neg (by omega)]
  exact loop N 0 f0 (by omega) (fun j => by simp) 0 nI_0.symm s.heap [] (by rw [show va_up hp q (.inl (zc Z 0, N, .inl f0)) = hp by (funext j; by_cases hj : j = q <;> simp [va_up, hj, h0])]; exact hG) hS ls (lv_sub hl [2, 3, 1, 0] rfl)
