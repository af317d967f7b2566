/-! ===== the walk of the law's body ===== -/
theorem permL_lt {k : Nat} (h : k < 211) : permL.getD k 0 < 211 := (perm_i ⟨k, h⟩).2
theorem permL_inj {i j : Nat} (hi : i < 211) (hj : j < 211) (h : permL.getD i 0 = permL.getD j 0) : i = j := by
  have a := (perm_i ⟨i, hi⟩).1
  have b := (perm_i ⟨j, hj⟩).1
  have a : ipermL.getD (permL.getD i 0) 0 = i := a
  have b : ipermL.getD (permL.getD j 0) 0 = j := b
  rw [h] at a
  exact a.symm.trans b
theorem mkX_a {D : va_G} {cs : Nat → ClassId} {n : Nat} {st : Nat → Nat} {k : Nat} (h : k < 211) : za (mkX D cs n st) k = n + permL.getD k 0 := if_pos h
theorem mkX_s {D : va_G} {cs : Nat → ClassId} {n : Nat} {st : Nat → Nat} {k : Nat} (h : ¬ k < 211) : za (mkX D cs n st) k = st k := if_neg h
theorem mkM_a {D : va_G} {cs : Nat → ClassId} {n : Nat} {st : Nat → Nat} {k : Nat} (h : k < 24) : za (mkM D cs n st) k = n + k := if_pos h
theorem mkM_s {D : va_G} {cs : Nat → ClassId} {n : Nat} {st : Nat → Nat} {k : Nat} (h : ¬ k < 24) : za (mkM D cs n st) k = st k := if_neg h
theorem wx_P {D : va_G} {cs : Nat → ClassId} {n : Nat} {st : Nat → Nat} {hp : Nat → va_E} {H : Heap} (hG : gw D vwCl n 211 (hpc_X11_init (mkX D cs n st) n hp) H) : ws_P (zD (mkX D cs n st)) vwCl 211 (za (mkX D cs n st)) (tX (mkX D cs n st)) sX0 H := by
  intro k q hq
  obtain ⟨hk, rfl⟩ := ws_inv hq
  have h := hG.1 (permL.getD k 0) _ (ws_get (permL_lt hk))
  have e2 : hpc_X11_init (mkX D cs n st) n hp (permL.getD k 0) = ws_h (tX (mkX D cs n st)) sX0 k := mx_all D cs n st hp k hk
  rw [mkX_a hk, ← e2]
  exact h
theorem wm_P {D : va_G} {cs : Nat → ClassId} {n : Nat} {st : Nat → Nat} {hp : Nat → va_E} {x : va_E} {H : Heap} (hG : gw D vwCl n 25 (va_up (hpc_X12_init (mkM D cs n st) n hp) 24 x) H) : ws_P (zD (mkM D cs n st)) vwCl 24 (za (mkM D cs n st)) (tM (mkM D cs n st)) sM0 H ∧ va_at D vwCl (n + 24, x) H := by
  refine ⟨fun k q hq => ?_, ?_⟩
  · obtain ⟨hk, rfl⟩ := ws_inv hq
    have h := hG.1 k _ (ws_get (show k < 25 by omega))
    rw [va_up_ne _ _ (show k ≠ 24 by omega)] at h
    have e2 : hpc_X12_init (mkM D cs n st) n hp k = ws_h (tM (mkM D cs n st)) sM0 k := mm_all D cs n st hp k hk
    rw [mkM_a hk, ← e2]
    exact h
  · have h := hG.1 24 _ (ws_get (show 24 < 25 by omega))
    rw [va_up_self] at h
    exact h
theorem wz_LZ {b : Nat} {s : State} {D : va_G} {csX csM : Nat → ClassId} {stX stM : Nat → Nat} (hKx : va_K D vwCl (tysX (mkX D csX s.heap.size stX)) s) (hKm : va_K D vwCl (tysM (mkM D csM (s.heap.size + 211) stM)) s) (hEX : ∀ A : Nat → Prop, (∀ a : Nat, a < s.heap.size → ¬ A a) → EX (mkX D csX s.heap.size stX) A s s.heap) (hEM : ∀ A : Nat → Prop, (∀ a : Nat, a < s.heap.size → ¬ A a) → (∀ q, A q → s.heap.size ≤ q) → EM (mkM D csM (s.heap.size + 211) stM) A s s.heap) : LZ (mkX D csX s.heap.size stX) (mkM D csM (s.heap.size + 211) stM) (s.heap.size + 211 + 24) s := by
  refine ⟨fun i j hi hj h => ?_, fun i j hi hj h => ?_, hKx, hKm, ⟨EX_ok _, hEX _ (fun a ha ⟨k, hk, e⟩ => ?_)⟩, ⟨EM_ok _, hEM _ (fun a ha ⟨k, hk, e⟩ => ?_) (fun q ⟨k, hk, e⟩ => ?_)⟩, fun k j hk hj h => ?_, fun k hk h => ?_, fun j hj h => ?_, fun k hk => ?_, fun j hj => ?_, by omega⟩
  · rw [mkX_a hi, mkX_a hj] at h
    exact permL_inj hi hj (by omega)
  · rw [mkM_a hi, mkM_a hj] at h
    omega
  · rw [mkX_a hk] at e; omega
  · rw [mkM_a hk] at e; omega
  · rw [mkM_a hk] at e; omega
  · rw [mkX_a hk, mkM_a hj] at h
    have := permL_lt hk
    omega
  · rw [mkX_a hk] at h
    have := permL_lt hk
    omega
  · rw [mkM_a hj] at h; omega
  · rw [mkX_a hk]; omega
  · rw [mkM_a hj]; omega
set_option maxHeartbeats 4000000 in
set_option maxRecDepth 100000 in
theorem whole_start {p : Program} {e : Env} {s : State} {m : MethodId} {below : List Frame} {meth : Method} {c : Code} (l : Launch) (hst : l.stackTraces = false) {b L : Nat} {xs : Nat → Int32} (hL : L ≤ 2048) (C0 : lw_At p s m meth c b L xs) : W p l e room_1 s m #[Value.ref b] below meth c s.heap [] 0 0 (lw_Z below #[Value.ref b] s) (entryFrame m ([Value.ref b] : List Value).toArray 8) := by
  obtain ⟨hx, hb, hr, hml, hown, hts0, hX, hbl, hlocks, hgv⟩ := id C0
  obtain ⟨D, csX, csM, ec, hKs⟩ := wk_K hts0
  obtain ⟨hKx0, hKm0⟩ := hKs (fun _ => 0) (fun _ => 0) (fun _ => 0) (fun _ => 0)
  obtain ⟨x0, x1, x2, hEX⟩ := wk_EX hts0 hgv
  obtain ⟨y0, y1, hEM⟩ := wk_EM hts0 hgv
  have hts : ∀ w ∈ wsL_law, w.before #[Value.ref b] s = true := fun w h => hts0 w (wsL_law_in w h)
  have C : LC p l s m meth c b L xs := ⟨hx, hb, hr, hml, hown, hts, hX, hbl, hlocks, hst⟩
  obtain ⟨stX, t0, t1, t2⟩ : ∃ st : Nat → Nat, st 1000 = x0 ∧ st 1001 = x1 ∧ st 1002 = x2 := ⟨fun k => if k = 1000 then x0 else if k = 1001 then x1 else x2, rfl, rfl, rfl⟩
  obtain ⟨stM, u0, u1⟩ : ∃ st : Nat → Nat, st 1000 = y0 ∧ st 1001 = y1 := ⟨fun k => if k = 1000 then y0 else y1, rfl, rfl⟩
  have hKx : va_K D vwCl (tysX (mkX D csX s.heap.size stX)) s := hKx0
  have hKm : va_K D vwCl (tysM (mkM D csM (s.heap.size + 211) stM)) s := hKm0
  have hZ := wz_LZ (b := b) hKx hKm (fun A hA => hEX _ A hA ((mkX_s (by decide)).trans t0) ((mkX_s (by decide)).trans t1) ((mkX_s (by decide)).trans t2)) (fun A hA hB => hEM _ A hA hB ((mkM_s (by decide)).trans u0) ((mkM_s (by decide)).trans u1))
  have hl := lv_entry ([.ref b]) (n := 8) (Nat.le_of_ble_eq_true rfl)
  rw [lg_entry_eq]
  generalize (lg_sl ([.ref b]) ++ List.replicate (8 - (lg_sl ([.ref b])).length) Slot.unset).toArray = ls at hl ⊢
  have hl : lv_has ls 8 [(0, .ref b)] := hl
  have hG0 : gw D vwCl s.heap.size 0 (fun _ => .inr (0, [])) s.heap := ⟨fun k q h => by simp [ws_W] at h, rfl⟩
  have hS0 : va_S (gA s.heap.size) s.heap s.heap [] := va_S.rf
  refine gz_new (C := RX11) (T := TX11) (N := 16) (ci := 11) (fs := [.null, .int 0, .null, .null, .null, .null, .null, .null, .int 0, .int 0, .null, .null, .null, .null, .null, .int 0]) hx hb hts inlX11 tyX11 tyX11_ok hown (hts (.classLink RL 8 RX11) (by decide +kernel)) (hts (.instantiable RX11 16) (by decide +kernel)) (hts (.initialized RX11) (by decide +kernel)) hKx hG0 hS0 rfl bl_X11 (Nat.le_of_ble_eq_true rfl) (Nat.le_of_ble_eq_true rfl) dL_law_0 (fun H hG hS => ?_)
  refine lv_dup hx hb dL_law_3 rfl ?_
  refine gz_call (va_runI (As := []) (rest := [.ref (s.heap.size + 0)]) ⟨hx, hb, hml, hown, hts⟩ (k_X11_init l (mkX D csX s.heap.size stX) s.heap.size _ rfl) (cwI 0 hts gL_law_X11_init rfl rfl rfl (hts (.initialized RX11) (by decide +kernel)) (hts (.methodLink RL 21 yX11_init) (by decide +kernel)) (hts (.instanceMethod yX11_init) (by decide +kernel)) rfl (by decide +kernel) ⟨Nat.le_of_ble_eq_true rfl, Nat.le_of_ble_eq_true rfl⟩) ⟨gx_blind, fun U hU hW => ⟨rfl, gx_at ⟨FX_ok, wk_FX hts0⟩ hG hKx hU hW⟩⟩ rfl rfl hl.1 rfl (lv_room (Nat.le_of_ble_eq_true rfl)) dL_law_4 ⟨Nat.le_of_ble_eq_true rfl, Nat.le_of_ble_eq_true rfl⟩) hS (fun H locs hG hS => ?_)
  refine lv_astore_n (lv' := [(1, .ref (s.heap.size + 0)), (0, .ref b)]) hx hb dL_law_7 rfl hl (by decide) rfl (fun ls hl => ?_)
  refine va_forget (fun q hq => hS.2.2 q hq) ?_
  have hPx := wx_P hG
  have hz := hG.2
  have hS' : va_S (lA s) s.heap H [] := ⟨hS.1, hS.2.1, fun _ h => by cases h⟩
  have hG1 : gw D vwCl (s.heap.size + 211) 0 (fun _ => .inr (0, [])) H := ⟨fun k q h => by simp [ws_W] at h, by rw [hz]⟩
  have hS1 : va_S (gA (s.heap.size + 211)) H H [] := va_S.rf
  refine gz_new (C := RX12) (T := TX12) (N := 41) (ci := 12) (fs := [.int 0, .null, .null, .null, .int 0, .null, .null, .int 0, .int 0, .int 0, .int 0, .int 0, .int 0, .int 0, .int 0, .null, .null, .null, .int 0, .int 0, .int 0, .int 0, .null, .int 0, .null, .int 0, .null, .null, .null, .null, .null, .null, .null, .null, .null, .null, .null, .null, .long 0, .null, .int 0]) hx hb hts inlX12 tyX12 tyX12_ok hown (hts (.classLink RL 22 RX12) (by decide +kernel)) (hts (.instantiable RX12 41) (by decide +kernel)) (hts (.initialized RX12) (by decide +kernel)) hKm hG1 hS1 rfl bl_X12 (Nat.le_of_ble_eq_true rfl) (Nat.le_of_ble_eq_true rfl) dL_law_8 (fun H2 hG2 hS2 => ?_)
  refine lv_dup hx hb dL_law_11 rfl ?_
  refine gz_call (va_runI (As := []) (rest := [.ref (s.heap.size + 211 + 0)]) ⟨hx, hb, hml, hown, hts⟩ (k_X12_init l (mkM D csM (s.heap.size + 211) stM) (s.heap.size + 211) _ rfl) (cwI 0 hts gL_law_X12_init rfl rfl rfl (hts (.initialized RX12) (by decide +kernel)) (hts (.methodLink RL 24 yX12_init) (by decide +kernel)) (hts (.instanceMethod yX12_init) (by decide +kernel)) rfl (by decide +kernel) ⟨Nat.le_of_ble_eq_true rfl, Nat.le_of_ble_eq_true rfl⟩) ⟨gx_blind, fun U hU hW => ⟨rfl, gx_at ⟨FM_ok, trivial⟩ hG2 hKm hU hW⟩⟩ rfl rfl hl.1 rfl (lv_room (Nat.le_of_ble_eq_true rfl)) dL_law_12 ⟨Nat.le_of_ble_eq_true rfl, Nat.le_of_ble_eq_true rfl⟩) hS2 (fun H3 locs3 hG3 hS3 => ?_)
  refine lv_astore_n (lv' := [(2, .ref (s.heap.size + 211 + 0)), (1, .ref (s.heap.size + 0)), (0, .ref b)]) hx hb dL_law_15 rfl hl (by decide) rfl (fun ls hl => ?_)
  refine lv_iconst (v := 1) hx hb dL_law_16 (by decide) ?_
  refine gz_newa (atype := .long) (a0 := ((1, .inr (.inl (fun _ => 0))) : vp_A)) (N := 1) hx hb (hts (.arrayClass .long) (by decide +kernel)) (ty := .long) rfl hKm 1 rfl (fun h => h) hG3 hS3 (fun _ => rfl) (by decide) (by decide) (by decide) (Nat.le_of_ble_eq_true rfl) (Nat.le_of_ble_eq_true rfl) dL_law_17 (fun H4 hG4 hS4 => ?_)
  refine lv_astore_n (lv' := [(3, .ref (s.heap.size + 211 + 24)), (2, .ref (s.heap.size + 211 + 0)), (1, .ref (s.heap.size + 0)), (0, .ref b)]) hx hb dL_law_19 rfl hl (by decide) rfl (fun ls hl => ?_)
  refine lv_iconst (v := 0) hx hb dL_law_20 (by decide) ?_
  refine lv_istore (lv' := [(4, .int 0), (3, .ref (s.heap.size + 211 + 24)), (2, .ref (s.heap.size + 211 + 0)), (1, .ref (s.heap.size + 0)), (0, .ref b)]) hx hb dL_law_21 hl (by decide) rfl (fun ls hl => ?_)
  obtain ⟨hPm, hOut⟩ := wm_P hG4
  have hz4 : H.size = s.heap.size + 211 := hz
  have hPx4 := ws_keep hPx (H1 := H4) (fun k hk => hS4.2.1 _ (by rw [mkX_a hk, hz4]; have := permL_lt hk; omega) (fun h => by
    have h : s.heap.size + 211 ≤ za (mkX D csX s.heap.size stX) k := h
    rw [mkX_a hk] at h
    have := permL_lt hk
    omega))
  have hSall : va_S (lA s) s.heap H4 locs3 := ⟨Nat.le_trans hS'.1 hS4.1, fun q h1 h2 => (hS4.2.1 q (Nat.lt_of_lt_of_le h1 hS'.1) (fun h => by
    have h : s.heap.size + 211 ≤ q := h
    omega)).trans (hS'.2.1 q h1 h2), fun q hq => by
    have h : s.heap.size + 211 ≤ q.base := hS4.2.2 q hq
    show s.heap.size ≤ q.base
    omega⟩
  have hI : LI (mkX D csX s.heap.size stX) (mkM D csM (s.heap.size + 211) stM) (s.heap.size + 211 + 24) s sX0 sM0 (fun _ => 0) H4 locs3 := ⟨hPx4, hPm, by
    show va_at D vwCl (s.heap.size + 211 + 24, .inl (csX 1, 1, .inr (.inl (fun _ => 0)))) H4
    rw [ec]; exact hOut, hSall⟩
  have e1 : za (mkX D csX s.heap.size stX) 155 = s.heap.size + 0 := by rw [mkX_a (by decide)]; rfl
  have e2 : za (mkM D csM (s.heap.size + 211) stM) 0 = s.heap.size + 211 + 0 := mkM_a (by decide)
  have hl' : lv_has ls 8 [(0, .ref b), (1, .ref (za (mkX D csX s.heap.size stX) 155)), (2, .ref (za (mkM D csM (s.heap.size + 211) stM) 0)), (3, .ref (s.heap.size + 211 + 24)), (4, .int 0)] := by
    rw [e1, e2]
    exact lv_sub hl [4, 3, 2, 1, 0] rfl
  exact lg_loop C hZ hL (fun _ => uRl) (fun i σx σm _ h => h.step) (fun H locs ls cells slots hS hc hs => va_forget (fun q hq => hS.2.2 q hq) (W.widen (k := 601024) (n := 7293034) (by omega) (by omega) (lv_iconst (v := 1) hx hb dL_law_729 (by decide) (lw_ret hx hb hr hlocks dL_law_730)))) 512 0 0 sX0 sM0 (fun _ => 0) H4 locs3 _ _ ls (by omega) (by omega) nI_0.symm uRl_0 hI (by omega) (by omega) hl'
