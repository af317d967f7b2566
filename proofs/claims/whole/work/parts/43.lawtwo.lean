section LR2
variable {p : Program} {l : Launch} {e : Env} {R : Room} {s : State} {m : MethodId} {args : Array Value} {below : List Frame} {meth : Method} {c : Code} {H : Heap} {locs : List Loc} {cells slots : Nat} {Q : State → Prop}
variable {cc : ByteArray} {pc : Nat} {ls : Array Slot} {rest st0 : List Value} {a : Array Value} {Zx Zm : ZT} {o : Nat} {σx σm : SG} {f : Nat → Int64}
theorem lr_s {code : Int32} {σx1 : SG} {f1 : Nat → Int64} (hZ : LZ Zx Zm o s) (hI : LI Zx Zm o s σx σm f H locs) (hr : va_Run p l e R s m args below meth c H locs cells slots 1 6 (F0 m pc ls st0) rest (va_Qi (fun r (_ : Unit) => r = code) (fun _ => lfB Zx o σx1 f1) (fA Zx o) a) (fA Zx o))
    (kk : ∀ (H1 : Heap) (locs1 : List Loc), LI Zx Zm o s σx1 σm f1 H1 locs1 → W p l e R s m args below meth c H1 locs1 (cells + 1) (slots + 6) Q (F0 m (pc + 3) ls (.int code :: rest))) : W p l e R s m args below meth c H locs cells slots Q (F0 m pc ls st0) := by
  obtain ⟨-, -, -, -, -, -, z1, z2, z3, z4, -, z6⟩ := id hZ
  have hA : ∀ q, fA Zx o q → lA s q := fun q h => by
    rcases h with ⟨k, h1, h2⟩ | h
    · rw [h2]; exact z4 k h1
    · rw [h]; exact z6
  exact va_calli hr hI.2.2.2 (fun q _ h => hA q h) (fun q h => hA q h) (fun r u t H1 locs1 ht hvm hw hB hz1 hk1 hS => by
    obtain rfl := hw
    obtain ⟨hP1, ho1⟩ := hB
    rw [ht] at hP1 ho1
    exact kk H1 locs1 ⟨hP1, ws_keep hI.2.1 (fun j hj => hk1 _ ((hI.2.1 j _ (ws_get hj)).lt) (fun h => by
      rcases h with ⟨k, h1, h2⟩ | h
      · exact z1 k j h1 hj h2.symm
      · exact z3 j hj h)), ho1, hS⟩)
theorem lr_old (hx : p.tables.exec = Jvm.exec) (hb : c.code = cc) (hK : va_K (zD Zx) vwCl (tysX Zx) s) (ho : va_at (zD Zx) vwCl (o, .inl (zc Zx 1, 1, .inr (.inl f))) H) (hdg : decode cc pc = .ok (.laload, 1))
    (kk : W p l e R s m args below meth c H locs cells slots Q (F0 m (pc + 1) ls (.long (f 0) :: rest))) : W p l e R s m args below meth c H locs cells slots Q (F0 m pc ls (.int 0 :: .ref o :: rest)) :=
  va_lald hx hb hK (show va_P (zD Zx) vwCl [(o, .inl (zc Zx 1, 1, .inr (.inl f)))] H from fun k q hk => by
    have h0 : k < 1 := (List.getElem?_eq_some_iff.mp hk).1
    rw [show k = 0 by omega] at hk
    cases hk
    exact ho) 0 1 (f := f) rfl rfl (by unfold vp_in; decide) hdg kk
end LR2
set_option maxHeartbeats 4000000 in
set_option maxRecDepth 100000 in
theorem lc_10v {p : Program} {l : Launch} {e : Env} {s : State} {m : MethodId} {below : List Frame} {meth : Method} {c : Code} {b L i o : Nat} {xs : Nat → Int32} {Zx Zm : ZT} {x4 : Int32} {σx σm : SG} {f : Nat → Int64} {H : Heap} {locs : List Loc} {cells slots : Nat} {Q : State → Prop} {ls : Array Slot} (C : LC p l s m meth c b L xs) (hZ : LZ Zx Zm o s) (hi : i + 4 ≤ L) (hL : L ≤ 2048) (ex4 : x4 = nI i) (hI : LI Zx Zm o s σx σm f H locs) (hcc : cells ≤ 600000) (hss : slots ≤ 7000000) (hl : lv_has ls 8 [(0, .ref b), (1, .ref (za Zx 155)), (2, .ref (za Zm 0)), (3, .ref o), (4, .int x4)]) {v : Int32} {σx' σm' σm'' : SG} (hm0 : m_X11_found σx (xs (i + 1)) (xs (i + 2)) = some (.inl v, σx')) (hm1 : m_X12_found σm (xs (i + 1)) (xs (i + 2)) = some (v, σm')) (hm2 : m_X12_thrown σm' = some (0, σm'')) (kk : ∀ (H : Heap) (locs : List Loc) (ls : Array Slot), LI Zx Zm o s σx' σm'' (vp_updL f 0 v.toInt64) H locs → lv_has ls 8 [(0, .ref b), (1, .ref (za Zx 155)), (2, .ref (za Zm 0)), (3, .ref o), (4, .int x4)] → W p l e room_1 s m #[Value.ref b] below meth c H locs (cells + 1) (slots + 6) Q (F0 m 723 ls [])) : W p l e room_1 s m #[Value.ref b] below meth c H locs cells slots Q (F0 m 426 ls []) := by
  obtain ⟨hx, hb, hr, hml, hown, hts, hX, hbl, hlocks, hst⟩ := C
  obtain ⟨hJx, hJm, hKx, hKm, hEx, hEm, -, z2, -, -, -, -⟩ := id hZ
  have hbA : ¬ lA s b := Nat.not_le.mpr hbl
  have e1 : (x4 + 1).toNatClampNeg = i + 1 := by rw [ex4, nI_1]; exact nI_clamp (by omega)
  have e2 : (x4 + 2).toNatClampNeg = i + 2 := by rw [ex4, show (2 : Int32) = nI 2 from rfl, nI_add]; exact nI_clamp (by omega)
  have e3 : (x4 + 3).toNatClampNeg = i + 3 := by rw [ex4, show (3 : Int32) = nI 3 from rfl, nI_add]; exact nI_clamp (by omega)
  have in1 : vp_in (x4 + 1) L := by rw [ex4, nI_1]; exact vp_in_nI (by omega) (by omega)
  have in2 : vp_in (x4 + 2) L := by rw [ex4, show (2 : Int32) = nI 2 from rfl, nI_add]; exact vp_in_nI (by omega) (by omega)
  have in3 : vp_in (x4 + 3) L := by rw [ex4, show (3 : Int32) = nI 3 from rfl, nI_add]; exact vp_in_nI (by omega) (by omega)
  refine lv_aload_n hx hb dL_law_426 rfl (lv_at hl 1 rfl) ?_
  refine lv_aload_n hx hb dL_law_427 rfl (lv_at hl 0 rfl) ?_
  refine lv_iload hx hb dL_law_428 (lv_at hl 4 rfl) ?_
  refine lv_iconst (v := 1) hx hb dL_law_430 (by decide) ?_
  refine lv_iadd hx hb dL_law_431 ?_
  refine va_sld hx hb hX hbl hbA hI.2.2.2 in1 dL_law_432 ?_
  rw [e1]
  refine lv_aload_n hx hb dL_law_433 rfl (lv_at hl 0 rfl) ?_
  refine lv_iload hx hb dL_law_434 (lv_at hl 4 rfl) ?_
  refine lv_iconst (v := 2) hx hb dL_law_436 (by decide) ?_
  refine lv_iadd hx hb dL_law_437 ?_
  refine va_sld hx hb hX hbl hbA hI.2.2.2 in2 dL_law_438 ?_
  rw [e2]
  refine lv_aload_n hx hb dL_law_439 rfl (lv_at hl 3 rfl) ?_
  refine lr_s (code := 0) (σx1 := σx') (f1 := (vp_updL f 0 v.toInt64)) hZ hI (vx_runSW (As := [.ref (za Zx 155), .int (xs (i + 1)), .int (xs (i + 2)), .ref o]) (rest := []) ⟨hx, hb, hml, hown, hts⟩ (k_L_found_v l hst Zx o σx σx' (xs (i + 1)) (xs (i + 2)) f v hm0) (vx_cwSW 4 hts gL_law_L_found rfl rfl rfl ⟨by decide +kernel, by decide +kernel, by decide +kernel⟩ ⟨Nat.le_of_ble_eq_true rfl, Nat.le_of_ble_eq_true rfl⟩) ⟨lf_blind, fun U hU hW => ⟨rfl, wl_at hEx hJx hI.1 hKx hI.2.2.2 hU hW, by rw [hU]; exact hI.2.2.1, z2⟩⟩ rfl rfl hl.1 rfl (lv_room (Nat.le_of_ble_eq_true rfl)) dL_law_440 ⟨Nat.le_trans (Nat.add_le_add_right hcc 1) (Nat.le_of_ble_eq_true rfl), Nat.le_trans (Nat.add_le_add_right hss 6) (Nat.le_of_ble_eq_true rfl)⟩) (fun H locs hI => ?_)
  refine lv_istore (lv' := [(5, .int 0), (0, .ref b), (1, .ref (za Zx 155)), (2, .ref (za Zm 0)), (3, .ref o), (4, .int x4)]) hx hb dL_law_443 hl (by decide) rfl (fun ls hl => ?_)
  refine lv_aload_n hx hb dL_law_445 rfl (lv_at hl 3 rfl) ?_
  refine lv_aload_n hx hb dL_law_446 rfl (lv_at hl 1 rfl) ?_
  refine lv_iload hx hb dL_law_447 (lv_at hl 5 rfl) ?_
  refine lv_iconst (v := 1) hx hb dL_law_449 (by decide) ?_
  refine lv_iadd hx hb dL_law_450 ?_
  refine va_sld hx hb hX hbl hbA hI.2.2.2 in1 dL_law_451 ?_
  rw [e1]
  refine lv_aload_n hx hb dL_law_452 rfl (lv_at hl 1 rfl) ?_
  refine lv_iload hx hb dL_law_453 (lv_at hl 5 rfl) ?_
  refine lv_iconst (v := 2) hx hb dL_law_455 (by decide) ?_
  refine lv_iadd hx hb dL_law_456 ?_
  refine va_sld hx hb hX hbl hbA hI.2.2.2 in2 dL_law_457 ?_
  rw [e2]
  refine lr_mi (res := (v, σm')) hZ hI (va_runV (As := [.int (xs (i + 1)), .int (xs (i + 2))]) (rest := []) ⟨hx, hb, hml, hown, hts⟩ (k_X12_found l Zm σm (xs (i + 1)) (xs (i + 2)) hm1) (cwV 2 hts gL_law_X12_found rfl rfl rfl (by decide +kernel) ⟨Nat.le_of_ble_eq_true rfl, Nat.le_of_ble_eq_true rfl⟩) ⟨wx_blind, wr_recv hKm hI.2.1 (k := 0) (by decide) ((tM_0 Zm) _ _ _) rfl, fun U hU hW => ⟨rfl, wl_at hEm hJm hI.2.1 hKm hI.2.2.2 hU hW⟩⟩ rfl rfl hl.1 rfl (lv_room (Nat.le_of_ble_eq_true rfl)) dL_law_458 ⟨Nat.le_trans (Nat.add_le_add_right hcc 1) (Nat.le_of_ble_eq_true rfl), Nat.le_trans (Nat.add_le_add_right hss 6) (Nat.le_of_ble_eq_true rfl)⟩) (fun H locs hI => ?_)
  refine lv_istore (lv' := [(6, .int v), (5, .int 0), (0, .ref b), (1, .ref (za Zx 155)), (2, .ref (za Zm 0)), (3, .ref o), (4, .int x4)]) hx hb dL_law_461 hl (by decide) rfl (fun ls hl => ?_)
  refine lv_aload_n hx hb dL_law_463 rfl (lv_at hl 4 rfl) ?_
  refine lr_mi (res := (0, σm'')) hZ hI (va_runV (As := []) (rest := []) ⟨hx, hb, hml, hown, hts⟩ (k_X12_thrown l Zm σm'  hm2) (cwV 0 hts gL_law_X12_thrown rfl rfl rfl (by decide +kernel) ⟨Nat.le_of_ble_eq_true rfl, Nat.le_of_ble_eq_true rfl⟩) ⟨wx_blind, wr_recv hKm hI.2.1 (k := 0) (by decide) ((tM_0 Zm) _ _ _) rfl, fun U hU hW => ⟨rfl, wl_at hEm hJm hI.2.1 hKm hI.2.2.2 hU hW⟩⟩ rfl rfl hl.1 rfl (lv_room (Nat.le_of_ble_eq_true rfl)) dL_law_464 ⟨Nat.le_trans (Nat.add_le_add_right hcc 1) (Nat.le_of_ble_eq_true rfl), Nat.le_trans (Nat.add_le_add_right hss 6) (Nat.le_of_ble_eq_true rfl)⟩) (fun H locs hI => ?_)
  refine lv_iload hx hb dL_law_467 (lv_at hl 1 rfl) ?_
  refine lv_icmp_eq (tgt := 474) hx hb dL_law_469 (by decide) (fun _ => ?_) (fun q => absurd rfl q)
  refine lv_iload hx hb dL_law_474 (lv_at hl 1 rfl) ?_
  refine lv_if_ne (tgt := 491) hx hb dL_law_476 (by decide) (fun q => absurd rfl q) (fun _ => ?_)
  refine lv_aload_n hx hb dL_law_479 rfl (lv_at hl 5 rfl) ?_
  refine lv_iconst (v := 0) hx hb dL_law_480 (by decide) ?_
  refine lr_old hx hb hKx hI.2.2.1 dL_law_481 ?_
  rw [show vp_updL f 0 (v.toInt64) 0 = v.toInt64 from if_pos rfl]
  refine lv_iload hx hb dL_law_482 (lv_at hl 0 rfl) ?_
  refine lv_i2l hx hb dL_law_484 rfl ?_
  refine W.lcmp hx hb dL_law_485 ?_
  refine lv_if_eq (tgt := 491) hx hb dL_law_486 (by decide) (fun _ => ?_) (fun q => absurd (lg_cmp_r _) q)
  refine lv_goto (tgt := 723) hx hb dL_law_491 (by decide) ?_
  exact kk H locs ls hI (lv_sub hl [2, 3, 4, 5, 6] rfl)

set_option maxHeartbeats 4000000 in
set_option maxRecDepth 100000 in
theorem lc_10x {p : Program} {l : Launch} {e : Env} {s : State} {m : MethodId} {below : List Frame} {meth : Method} {c : Code} {b L i o : Nat} {xs : Nat → Int32} {Zx Zm : ZT} {x4 : Int32} {σx σm : SG} {f : Nat → Int64} {H : Heap} {locs : List Loc} {cells slots : Nat} {Q : State → Prop} {ls : Array Slot} (C : LC p l s m meth c b L xs) (hZ : LZ Zx Zm o s) (hi : i + 4 ≤ L) (hL : L ≤ 2048) (ex4 : x4 = nI i) (hI : LI Zx Zm o s σx σm f H locs) (hcc : cells ≤ 600000) (hss : slots ≤ 7000000) (hl : lv_has ls 8 [(0, .ref b), (1, .ref (za Zx 155)), (2, .ref (za Zm 0)), (3, .ref o), (4, .int x4)]) {r : Int32} {σx' σm' σm'' : SG} (hm0 : m_X11_found σx (xs (i + 1)) (xs (i + 2)) = some (.inr true, σx')) (hm1 : m_X12_found σm (xs (i + 1)) (xs (i + 2)) = some (r, σm')) (hm2 : m_X12_thrown σm' = some (1, σm'')) (kk : ∀ (H : Heap) (locs : List Loc) (ls : Array Slot), LI Zx Zm o s σx' σm'' f H locs → lv_has ls 8 [(0, .ref b), (1, .ref (za Zx 155)), (2, .ref (za Zm 0)), (3, .ref o), (4, .int x4)] → W p l e room_1 s m #[Value.ref b] below meth c H locs (cells + 1) (slots + 6) Q (F0 m 723 ls [])) : W p l e room_1 s m #[Value.ref b] below meth c H locs cells slots Q (F0 m 426 ls []) := by
  obtain ⟨hx, hb, hr, hml, hown, hts, hX, hbl, hlocks, hst⟩ := C
  obtain ⟨hJx, hJm, hKx, hKm, hEx, hEm, -, z2, -, -, -, -⟩ := id hZ
  have hbA : ¬ lA s b := Nat.not_le.mpr hbl
  have e1 : (x4 + 1).toNatClampNeg = i + 1 := by rw [ex4, nI_1]; exact nI_clamp (by omega)
  have e2 : (x4 + 2).toNatClampNeg = i + 2 := by rw [ex4, show (2 : Int32) = nI 2 from rfl, nI_add]; exact nI_clamp (by omega)
  have e3 : (x4 + 3).toNatClampNeg = i + 3 := by rw [ex4, show (3 : Int32) = nI 3 from rfl, nI_add]; exact nI_clamp (by omega)
  have in1 : vp_in (x4 + 1) L := by rw [ex4, nI_1]; exact vp_in_nI (by omega) (by omega)
  have in2 : vp_in (x4 + 2) L := by rw [ex4, show (2 : Int32) = nI 2 from rfl, nI_add]; exact vp_in_nI (by omega) (by omega)
  have in3 : vp_in (x4 + 3) L := by rw [ex4, show (3 : Int32) = nI 3 from rfl, nI_add]; exact vp_in_nI (by omega) (by omega)
  refine lv_aload_n hx hb dL_law_426 rfl (lv_at hl 1 rfl) ?_
  refine lv_aload_n hx hb dL_law_427 rfl (lv_at hl 0 rfl) ?_
  refine lv_iload hx hb dL_law_428 (lv_at hl 4 rfl) ?_
  refine lv_iconst (v := 1) hx hb dL_law_430 (by decide) ?_
  refine lv_iadd hx hb dL_law_431 ?_
  refine va_sld hx hb hX hbl hbA hI.2.2.2 in1 dL_law_432 ?_
  rw [e1]
  refine lv_aload_n hx hb dL_law_433 rfl (lv_at hl 0 rfl) ?_
  refine lv_iload hx hb dL_law_434 (lv_at hl 4 rfl) ?_
  refine lv_iconst (v := 2) hx hb dL_law_436 (by decide) ?_
  refine lv_iadd hx hb dL_law_437 ?_
  refine va_sld hx hb hX hbl hbA hI.2.2.2 in2 dL_law_438 ?_
  rw [e2]
  refine lv_aload_n hx hb dL_law_439 rfl (lv_at hl 3 rfl) ?_
  refine lr_s (code := 1) (σx1 := σx') (f1 := f) hZ hI (vx_runSW (As := [.ref (za Zx 155), .int (xs (i + 1)), .int (xs (i + 2)), .ref o]) (rest := []) ⟨hx, hb, hml, hown, hts⟩ (k_L_found_x l hst Zx o σx σx' (xs (i + 1)) (xs (i + 2)) f hm0) (vx_cwSW 4 hts gL_law_L_found rfl rfl rfl ⟨by decide +kernel, by decide +kernel, by decide +kernel⟩ ⟨Nat.le_of_ble_eq_true rfl, Nat.le_of_ble_eq_true rfl⟩) ⟨lf_blind, fun U hU hW => ⟨rfl, wl_at hEx hJx hI.1 hKx hI.2.2.2 hU hW, by rw [hU]; exact hI.2.2.1, z2⟩⟩ rfl rfl hl.1 rfl (lv_room (Nat.le_of_ble_eq_true rfl)) dL_law_440 ⟨Nat.le_trans (Nat.add_le_add_right hcc 1) (Nat.le_of_ble_eq_true rfl), Nat.le_trans (Nat.add_le_add_right hss 6) (Nat.le_of_ble_eq_true rfl)⟩) (fun H locs hI => ?_)
  refine lv_istore (lv' := [(5, .int 1), (0, .ref b), (1, .ref (za Zx 155)), (2, .ref (za Zm 0)), (3, .ref o), (4, .int x4)]) hx hb dL_law_443 hl (by decide) rfl (fun ls hl => ?_)
  refine lv_aload_n hx hb dL_law_445 rfl (lv_at hl 3 rfl) ?_
  refine lv_aload_n hx hb dL_law_446 rfl (lv_at hl 1 rfl) ?_
  refine lv_iload hx hb dL_law_447 (lv_at hl 5 rfl) ?_
  refine lv_iconst (v := 1) hx hb dL_law_449 (by decide) ?_
  refine lv_iadd hx hb dL_law_450 ?_
  refine va_sld hx hb hX hbl hbA hI.2.2.2 in1 dL_law_451 ?_
  rw [e1]
  refine lv_aload_n hx hb dL_law_452 rfl (lv_at hl 1 rfl) ?_
  refine lv_iload hx hb dL_law_453 (lv_at hl 5 rfl) ?_
  refine lv_iconst (v := 2) hx hb dL_law_455 (by decide) ?_
  refine lv_iadd hx hb dL_law_456 ?_
  refine va_sld hx hb hX hbl hbA hI.2.2.2 in2 dL_law_457 ?_
  rw [e2]
  refine lr_mi (res := (r, σm')) hZ hI (va_runV (As := [.int (xs (i + 1)), .int (xs (i + 2))]) (rest := []) ⟨hx, hb, hml, hown, hts⟩ (k_X12_found l Zm σm (xs (i + 1)) (xs (i + 2)) hm1) (cwV 2 hts gL_law_X12_found rfl rfl rfl (by decide +kernel) ⟨Nat.le_of_ble_eq_true rfl, Nat.le_of_ble_eq_true rfl⟩) ⟨wx_blind, wr_recv hKm hI.2.1 (k := 0) (by decide) ((tM_0 Zm) _ _ _) rfl, fun U hU hW => ⟨rfl, wl_at hEm hJm hI.2.1 hKm hI.2.2.2 hU hW⟩⟩ rfl rfl hl.1 rfl (lv_room (Nat.le_of_ble_eq_true rfl)) dL_law_458 ⟨Nat.le_trans (Nat.add_le_add_right hcc 1) (Nat.le_of_ble_eq_true rfl), Nat.le_trans (Nat.add_le_add_right hss 6) (Nat.le_of_ble_eq_true rfl)⟩) (fun H locs hI => ?_)
  refine lv_istore (lv' := [(6, .int r), (5, .int 1), (0, .ref b), (1, .ref (za Zx 155)), (2, .ref (za Zm 0)), (3, .ref o), (4, .int x4)]) hx hb dL_law_461 hl (by decide) rfl (fun ls hl => ?_)
  refine lv_aload_n hx hb dL_law_463 rfl (lv_at hl 4 rfl) ?_
  refine lr_mi (res := (1, σm'')) hZ hI (va_runV (As := []) (rest := []) ⟨hx, hb, hml, hown, hts⟩ (k_X12_thrown l Zm σm'  hm2) (cwV 0 hts gL_law_X12_thrown rfl rfl rfl (by decide +kernel) ⟨Nat.le_of_ble_eq_true rfl, Nat.le_of_ble_eq_true rfl⟩) ⟨wx_blind, wr_recv hKm hI.2.1 (k := 0) (by decide) ((tM_0 Zm) _ _ _) rfl, fun U hU hW => ⟨rfl, wl_at hEm hJm hI.2.1 hKm hI.2.2.2 hU hW⟩⟩ rfl rfl hl.1 rfl (lv_room (Nat.le_of_ble_eq_true rfl)) dL_law_464 ⟨Nat.le_trans (Nat.add_le_add_right hcc 1) (Nat.le_of_ble_eq_true rfl), Nat.le_trans (Nat.add_le_add_right hss 6) (Nat.le_of_ble_eq_true rfl)⟩) (fun H locs hI => ?_)
  refine lv_iload hx hb dL_law_467 (lv_at hl 1 rfl) ?_
  refine lv_icmp_eq (tgt := 474) hx hb dL_law_469 (by decide) (fun _ => ?_) (fun q => absurd rfl q)
  refine lv_iload hx hb dL_law_474 (lv_at hl 1 rfl) ?_
  refine lv_if_ne (tgt := 491) hx hb dL_law_476 (by decide) (fun _ => ?_) (fun q => absurd q (by decide))
  refine lv_goto (tgt := 723) hx hb dL_law_491 (by decide) ?_
  exact kk H locs ls hI (lv_sub hl [2, 3, 4, 5, 6] rfl)

set_option maxHeartbeats 4000000 in
set_option maxRecDepth 100000 in
theorem lc_13v {p : Program} {l : Launch} {e : Env} {s : State} {m : MethodId} {below : List Frame} {meth : Method} {c : Code} {b L i o : Nat} {xs : Nat → Int32} {Zx Zm : ZT} {x4 : Int32} {σx σm : SG} {f : Nat → Int64} {H : Heap} {locs : List Loc} {cells slots : Nat} {Q : State → Prop} {ls : Array Slot} (C : LC p l s m meth c b L xs) (hZ : LZ Zx Zm o s) (hi : i + 4 ≤ L) (hL : L ≤ 2048) (ex4 : x4 = nI i) (hI : LI Zx Zm o s σx σm f H locs) (hcc : cells ≤ 600000) (hss : slots ≤ 7000000) (hl : lv_has ls 8 [(0, .ref b), (1, .ref (za Zx 155)), (2, .ref (za Zm 0)), (3, .ref o), (4, .int x4)]) {v : Int64} {σx' σm' σm'' : SG} (hm0 : m_X11_share σx (xs (i + 1)) (xs (i + 2)) = some (.inl v, σx')) (hm1 : m_X12_share σm (xs (i + 1)) (xs (i + 2)) = some (v, σm')) (hm2 : m_X12_thrown σm' = some (0, σm'')) (kk : ∀ (H : Heap) (locs : List Loc) (ls : Array Slot), LI Zx Zm o s σx' σm'' (vp_updL f 0 v) H locs → lv_has ls 8 [(0, .ref b), (1, .ref (za Zx 155)), (2, .ref (za Zm 0)), (3, .ref o), (4, .int x4)] → W p l e room_1 s m #[Value.ref b] below meth c H locs (cells + 1) (slots + 6) Q (F0 m 723 ls [])) : W p l e room_1 s m #[Value.ref b] below meth c H locs cells slots Q (F0 m 581 ls []) := by
  obtain ⟨hx, hb, hr, hml, hown, hts, hX, hbl, hlocks, hst⟩ := C
  obtain ⟨hJx, hJm, hKx, hKm, hEx, hEm, -, z2, -, -, -, -⟩ := id hZ
  have hbA : ¬ lA s b := Nat.not_le.mpr hbl
  have e1 : (x4 + 1).toNatClampNeg = i + 1 := by rw [ex4, nI_1]; exact nI_clamp (by omega)
  have e2 : (x4 + 2).toNatClampNeg = i + 2 := by rw [ex4, show (2 : Int32) = nI 2 from rfl, nI_add]; exact nI_clamp (by omega)
  have e3 : (x4 + 3).toNatClampNeg = i + 3 := by rw [ex4, show (3 : Int32) = nI 3 from rfl, nI_add]; exact nI_clamp (by omega)
  have in1 : vp_in (x4 + 1) L := by rw [ex4, nI_1]; exact vp_in_nI (by omega) (by omega)
  have in2 : vp_in (x4 + 2) L := by rw [ex4, show (2 : Int32) = nI 2 from rfl, nI_add]; exact vp_in_nI (by omega) (by omega)
  have in3 : vp_in (x4 + 3) L := by rw [ex4, show (3 : Int32) = nI 3 from rfl, nI_add]; exact vp_in_nI (by omega) (by omega)
  refine lv_aload_n hx hb dL_law_581 rfl (lv_at hl 1 rfl) ?_
  refine lv_aload_n hx hb dL_law_582 rfl (lv_at hl 0 rfl) ?_
  refine lv_iload hx hb dL_law_583 (lv_at hl 4 rfl) ?_
  refine lv_iconst (v := 1) hx hb dL_law_585 (by decide) ?_
  refine lv_iadd hx hb dL_law_586 ?_
  refine va_sld hx hb hX hbl hbA hI.2.2.2 in1 dL_law_587 ?_
  rw [e1]
  refine lv_aload_n hx hb dL_law_588 rfl (lv_at hl 0 rfl) ?_
  refine lv_iload hx hb dL_law_589 (lv_at hl 4 rfl) ?_
  refine lv_iconst (v := 2) hx hb dL_law_591 (by decide) ?_
  refine lv_iadd hx hb dL_law_592 ?_
  refine va_sld hx hb hX hbl hbA hI.2.2.2 in2 dL_law_593 ?_
  rw [e2]
  refine lv_aload_n hx hb dL_law_594 rfl (lv_at hl 3 rfl) ?_
  refine lr_s (code := 0) (σx1 := σx') (f1 := (vp_updL f 0 v)) hZ hI (vx_runSW (As := [.ref (za Zx 155), .int (xs (i + 1)), .int (xs (i + 2)), .ref o]) (rest := []) ⟨hx, hb, hml, hown, hts⟩ (k_L_share_v l hst Zx o σx σx' (xs (i + 1)) (xs (i + 2)) f v hm0) (vx_cwSW 4 hts gL_law_L_share rfl rfl rfl ⟨by decide +kernel, by decide +kernel, by decide +kernel⟩ ⟨Nat.le_of_ble_eq_true rfl, Nat.le_of_ble_eq_true rfl⟩) ⟨lf_blind, fun U hU hW => ⟨rfl, wl_at hEx hJx hI.1 hKx hI.2.2.2 hU hW, by rw [hU]; exact hI.2.2.1, z2⟩⟩ rfl rfl hl.1 rfl (lv_room (Nat.le_of_ble_eq_true rfl)) dL_law_595 ⟨Nat.le_trans (Nat.add_le_add_right hcc 1) (Nat.le_of_ble_eq_true rfl), Nat.le_trans (Nat.add_le_add_right hss 6) (Nat.le_of_ble_eq_true rfl)⟩) (fun H locs hI => ?_)
  refine lv_istore (lv' := [(5, .int 0), (0, .ref b), (1, .ref (za Zx 155)), (2, .ref (za Zm 0)), (3, .ref o), (4, .int x4)]) hx hb dL_law_598 hl (by decide) rfl (fun ls hl => ?_)
  refine lv_aload_n hx hb dL_law_600 rfl (lv_at hl 3 rfl) ?_
  refine lv_aload_n hx hb dL_law_601 rfl (lv_at hl 1 rfl) ?_
  refine lv_iload hx hb dL_law_602 (lv_at hl 5 rfl) ?_
  refine lv_iconst (v := 1) hx hb dL_law_604 (by decide) ?_
  refine lv_iadd hx hb dL_law_605 ?_
  refine va_sld hx hb hX hbl hbA hI.2.2.2 in1 dL_law_606 ?_
  rw [e1]
  refine lv_aload_n hx hb dL_law_607 rfl (lv_at hl 1 rfl) ?_
  refine lv_iload hx hb dL_law_608 (lv_at hl 5 rfl) ?_
  refine lv_iconst (v := 2) hx hb dL_law_610 (by decide) ?_
  refine lv_iadd hx hb dL_law_611 ?_
  refine va_sld hx hb hX hbl hbA hI.2.2.2 in2 dL_law_612 ?_
  rw [e2]
  refine lr_ml (res := (v, σm')) hZ hI (va_runV (As := [.int (xs (i + 1)), .int (xs (i + 2))]) (rest := []) ⟨hx, hb, hml, hown, hts⟩ (k_X12_share l Zm σm (xs (i + 1)) (xs (i + 2)) hm1) (cwV 2 hts gL_law_X12_share rfl rfl rfl (by decide +kernel) ⟨Nat.le_of_ble_eq_true rfl, Nat.le_of_ble_eq_true rfl⟩) ⟨wx_blind, wr_recv hKm hI.2.1 (k := 0) (by decide) ((tM_0 Zm) _ _ _) rfl, fun U hU hW => ⟨rfl, wl_at hEm hJm hI.2.1 hKm hI.2.2.2 hU hW⟩⟩ rfl rfl hl.1 rfl (lv_room (Nat.le_of_ble_eq_true rfl)) dL_law_613 ⟨Nat.le_trans (Nat.add_le_add_right hcc 1) (Nat.le_of_ble_eq_true rfl), Nat.le_trans (Nat.add_le_add_right hss 6) (Nat.le_of_ble_eq_true rfl)⟩) (fun H locs hI => ?_)
  refine lv_lstore (lv' := [(6, .long v), (5, .int 0), (0, .ref b), (1, .ref (za Zx 155)), (2, .ref (za Zm 0)), (3, .ref o), (4, .int x4)]) hx hb dL_law_616 hl (by decide) rfl (fun ls hl => ?_)
  refine lv_aload_n hx hb dL_law_618 rfl (lv_at hl 4 rfl) ?_
  refine lr_mi (res := (0, σm'')) hZ hI (va_runV (As := []) (rest := []) ⟨hx, hb, hml, hown, hts⟩ (k_X12_thrown l Zm σm'  hm2) (cwV 0 hts gL_law_X12_thrown rfl rfl rfl (by decide +kernel) ⟨Nat.le_of_ble_eq_true rfl, Nat.le_of_ble_eq_true rfl⟩) ⟨wx_blind, wr_recv hKm hI.2.1 (k := 0) (by decide) ((tM_0 Zm) _ _ _) rfl, fun U hU hW => ⟨rfl, wl_at hEm hJm hI.2.1 hKm hI.2.2.2 hU hW⟩⟩ rfl rfl hl.1 rfl (lv_room (Nat.le_of_ble_eq_true rfl)) dL_law_619 ⟨Nat.le_trans (Nat.add_le_add_right hcc 1) (Nat.le_of_ble_eq_true rfl), Nat.le_trans (Nat.add_le_add_right hss 6) (Nat.le_of_ble_eq_true rfl)⟩) (fun H locs hI => ?_)
  refine lv_iload hx hb dL_law_622 (lv_at hl 1 rfl) ?_
  refine lv_icmp_eq (tgt := 629) hx hb dL_law_624 (by decide) (fun _ => ?_) (fun q => absurd rfl q)
  refine lv_iload hx hb dL_law_629 (lv_at hl 1 rfl) ?_
  refine lv_if_ne (tgt := 645) hx hb dL_law_631 (by decide) (fun q => absurd rfl q) (fun _ => ?_)
  refine lv_aload_n hx hb dL_law_634 rfl (lv_at hl 5 rfl) ?_
  refine lv_iconst (v := 0) hx hb dL_law_635 (by decide) ?_
  refine lr_old hx hb hKx hI.2.2.1 dL_law_636 ?_
  rw [show vp_updL f 0 (v) 0 = v from if_pos rfl]
  refine lv_lload hx hb dL_law_637 (lv_at hl 0 rfl) ?_
  refine W.lcmp hx hb dL_law_639 ?_
  refine lv_if_eq (tgt := 645) hx hb dL_law_640 (by decide) (fun _ => ?_) (fun q => absurd (lg_cmp_r _) q)
  refine lv_goto (tgt := 723) hx hb dL_law_645 (by decide) ?_
  exact kk H locs ls hI (lv_sub hl [2, 3, 4, 5, 6] rfl)

set_option maxHeartbeats 4000000 in
set_option maxRecDepth 100000 in
theorem lc_13x {p : Program} {l : Launch} {e : Env} {s : State} {m : MethodId} {below : List Frame} {meth : Method} {c : Code} {b L i o : Nat} {xs : Nat → Int32} {Zx Zm : ZT} {x4 : Int32} {σx σm : SG} {f : Nat → Int64} {H : Heap} {locs : List Loc} {cells slots : Nat} {Q : State → Prop} {ls : Array Slot} (C : LC p l s m meth c b L xs) (hZ : LZ Zx Zm o s) (hi : i + 4 ≤ L) (hL : L ≤ 2048) (ex4 : x4 = nI i) (hI : LI Zx Zm o s σx σm f H locs) (hcc : cells ≤ 600000) (hss : slots ≤ 7000000) (hl : lv_has ls 8 [(0, .ref b), (1, .ref (za Zx 155)), (2, .ref (za Zm 0)), (3, .ref o), (4, .int x4)]) {r : Int64} {σx' σm' σm'' : SG} (hm0 : m_X11_share σx (xs (i + 1)) (xs (i + 2)) = some (.inr true, σx')) (hm1 : m_X12_share σm (xs (i + 1)) (xs (i + 2)) = some (r, σm')) (hm2 : m_X12_thrown σm' = some (1, σm'')) (kk : ∀ (H : Heap) (locs : List Loc) (ls : Array Slot), LI Zx Zm o s σx' σm'' f H locs → lv_has ls 8 [(0, .ref b), (1, .ref (za Zx 155)), (2, .ref (za Zm 0)), (3, .ref o), (4, .int x4)] → W p l e room_1 s m #[Value.ref b] below meth c H locs (cells + 1) (slots + 6) Q (F0 m 723 ls [])) : W p l e room_1 s m #[Value.ref b] below meth c H locs cells slots Q (F0 m 581 ls []) := by
  obtain ⟨hx, hb, hr, hml, hown, hts, hX, hbl, hlocks, hst⟩ := C
  obtain ⟨hJx, hJm, hKx, hKm, hEx, hEm, -, z2, -, -, -, -⟩ := id hZ
  have hbA : ¬ lA s b := Nat.not_le.mpr hbl
  have e1 : (x4 + 1).toNatClampNeg = i + 1 := by rw [ex4, nI_1]; exact nI_clamp (by omega)
  have e2 : (x4 + 2).toNatClampNeg = i + 2 := by rw [ex4, show (2 : Int32) = nI 2 from rfl, nI_add]; exact nI_clamp (by omega)
  have e3 : (x4 + 3).toNatClampNeg = i + 3 := by rw [ex4, show (3 : Int32) = nI 3 from rfl, nI_add]; exact nI_clamp (by omega)
  have in1 : vp_in (x4 + 1) L := by rw [ex4, nI_1]; exact vp_in_nI (by omega) (by omega)
  have in2 : vp_in (x4 + 2) L := by rw [ex4, show (2 : Int32) = nI 2 from rfl, nI_add]; exact vp_in_nI (by omega) (by omega)
  have in3 : vp_in (x4 + 3) L := by rw [ex4, show (3 : Int32) = nI 3 from rfl, nI_add]; exact vp_in_nI (by omega) (by omega)
  refine lv_aload_n hx hb dL_law_581 rfl (lv_at hl 1 rfl) ?_
  refine lv_aload_n hx hb dL_law_582 rfl (lv_at hl 0 rfl) ?_
  refine lv_iload hx hb dL_law_583 (lv_at hl 4 rfl) ?_
  refine lv_iconst (v := 1) hx hb dL_law_585 (by decide) ?_
  refine lv_iadd hx hb dL_law_586 ?_
  refine va_sld hx hb hX hbl hbA hI.2.2.2 in1 dL_law_587 ?_
  rw [e1]
  refine lv_aload_n hx hb dL_law_588 rfl (lv_at hl 0 rfl) ?_
  refine lv_iload hx hb dL_law_589 (lv_at hl 4 rfl) ?_
  refine lv_iconst (v := 2) hx hb dL_law_591 (by decide) ?_
  refine lv_iadd hx hb dL_law_592 ?_
  refine va_sld hx hb hX hbl hbA hI.2.2.2 in2 dL_law_593 ?_
  rw [e2]
  refine lv_aload_n hx hb dL_law_594 rfl (lv_at hl 3 rfl) ?_
  refine lr_s (code := 1) (σx1 := σx') (f1 := f) hZ hI (vx_runSW (As := [.ref (za Zx 155), .int (xs (i + 1)), .int (xs (i + 2)), .ref o]) (rest := []) ⟨hx, hb, hml, hown, hts⟩ (k_L_share_x l hst Zx o σx σx' (xs (i + 1)) (xs (i + 2)) f hm0) (vx_cwSW 4 hts gL_law_L_share rfl rfl rfl ⟨by decide +kernel, by decide +kernel, by decide +kernel⟩ ⟨Nat.le_of_ble_eq_true rfl, Nat.le_of_ble_eq_true rfl⟩) ⟨lf_blind, fun U hU hW => ⟨rfl, wl_at hEx hJx hI.1 hKx hI.2.2.2 hU hW, by rw [hU]; exact hI.2.2.1, z2⟩⟩ rfl rfl hl.1 rfl (lv_room (Nat.le_of_ble_eq_true rfl)) dL_law_595 ⟨Nat.le_trans (Nat.add_le_add_right hcc 1) (Nat.le_of_ble_eq_true rfl), Nat.le_trans (Nat.add_le_add_right hss 6) (Nat.le_of_ble_eq_true rfl)⟩) (fun H locs hI => ?_)
  refine lv_istore (lv' := [(5, .int 1), (0, .ref b), (1, .ref (za Zx 155)), (2, .ref (za Zm 0)), (3, .ref o), (4, .int x4)]) hx hb dL_law_598 hl (by decide) rfl (fun ls hl => ?_)
  refine lv_aload_n hx hb dL_law_600 rfl (lv_at hl 3 rfl) ?_
  refine lv_aload_n hx hb dL_law_601 rfl (lv_at hl 1 rfl) ?_
  refine lv_iload hx hb dL_law_602 (lv_at hl 5 rfl) ?_
  refine lv_iconst (v := 1) hx hb dL_law_604 (by decide) ?_
  refine lv_iadd hx hb dL_law_605 ?_
  refine va_sld hx hb hX hbl hbA hI.2.2.2 in1 dL_law_606 ?_
  rw [e1]
  refine lv_aload_n hx hb dL_law_607 rfl (lv_at hl 1 rfl) ?_
  refine lv_iload hx hb dL_law_608 (lv_at hl 5 rfl) ?_
  refine lv_iconst (v := 2) hx hb dL_law_610 (by decide) ?_
  refine lv_iadd hx hb dL_law_611 ?_
  refine va_sld hx hb hX hbl hbA hI.2.2.2 in2 dL_law_612 ?_
  rw [e2]
  refine lr_ml (res := (r, σm')) hZ hI (va_runV (As := [.int (xs (i + 1)), .int (xs (i + 2))]) (rest := []) ⟨hx, hb, hml, hown, hts⟩ (k_X12_share l Zm σm (xs (i + 1)) (xs (i + 2)) hm1) (cwV 2 hts gL_law_X12_share rfl rfl rfl (by decide +kernel) ⟨Nat.le_of_ble_eq_true rfl, Nat.le_of_ble_eq_true rfl⟩) ⟨wx_blind, wr_recv hKm hI.2.1 (k := 0) (by decide) ((tM_0 Zm) _ _ _) rfl, fun U hU hW => ⟨rfl, wl_at hEm hJm hI.2.1 hKm hI.2.2.2 hU hW⟩⟩ rfl rfl hl.1 rfl (lv_room (Nat.le_of_ble_eq_true rfl)) dL_law_613 ⟨Nat.le_trans (Nat.add_le_add_right hcc 1) (Nat.le_of_ble_eq_true rfl), Nat.le_trans (Nat.add_le_add_right hss 6) (Nat.le_of_ble_eq_true rfl)⟩) (fun H locs hI => ?_)
  refine lv_lstore (lv' := [(6, .long r), (5, .int 1), (0, .ref b), (1, .ref (za Zx 155)), (2, .ref (za Zm 0)), (3, .ref o), (4, .int x4)]) hx hb dL_law_616 hl (by decide) rfl (fun ls hl => ?_)
  refine lv_aload_n hx hb dL_law_618 rfl (lv_at hl 4 rfl) ?_
  refine lr_mi (res := (1, σm'')) hZ hI (va_runV (As := []) (rest := []) ⟨hx, hb, hml, hown, hts⟩ (k_X12_thrown l Zm σm'  hm2) (cwV 0 hts gL_law_X12_thrown rfl rfl rfl (by decide +kernel) ⟨Nat.le_of_ble_eq_true rfl, Nat.le_of_ble_eq_true rfl⟩) ⟨wx_blind, wr_recv hKm hI.2.1 (k := 0) (by decide) ((tM_0 Zm) _ _ _) rfl, fun U hU hW => ⟨rfl, wl_at hEm hJm hI.2.1 hKm hI.2.2.2 hU hW⟩⟩ rfl rfl hl.1 rfl (lv_room (Nat.le_of_ble_eq_true rfl)) dL_law_619 ⟨Nat.le_trans (Nat.add_le_add_right hcc 1) (Nat.le_of_ble_eq_true rfl), Nat.le_trans (Nat.add_le_add_right hss 6) (Nat.le_of_ble_eq_true rfl)⟩) (fun H locs hI => ?_)
  refine lv_iload hx hb dL_law_622 (lv_at hl 1 rfl) ?_
  refine lv_icmp_eq (tgt := 629) hx hb dL_law_624 (by decide) (fun _ => ?_) (fun q => absurd rfl q)
  refine lv_iload hx hb dL_law_629 (lv_at hl 1 rfl) ?_
  refine lv_if_ne (tgt := 645) hx hb dL_law_631 (by decide) (fun _ => ?_) (fun q => absurd q (by decide))
  refine lv_goto (tgt := 723) hx hb dL_law_645 (by decide) ?_
  exact kk H locs ls hI (lv_sub hl [2, 3, 4, 5, 6] rfl)

set_option maxHeartbeats 4000000 in
set_option maxRecDepth 100000 in
theorem lc_13y {p : Program} {l : Launch} {e : Env} {s : State} {m : MethodId} {below : List Frame} {meth : Method} {c : Code} {b L i o : Nat} {xs : Nat → Int32} {Zx Zm : ZT} {x4 : Int32} {σx σm : SG} {f : Nat → Int64} {H : Heap} {locs : List Loc} {cells slots : Nat} {Q : State → Prop} {ls : Array Slot} (C : LC p l s m meth c b L xs) (hZ : LZ Zx Zm o s) (hi : i + 4 ≤ L) (hL : L ≤ 2048) (ex4 : x4 = nI i) (hI : LI Zx Zm o s σx σm f H locs) (hcc : cells ≤ 600000) (hss : slots ≤ 7000000) (hl : lv_has ls 8 [(0, .ref b), (1, .ref (za Zx 155)), (2, .ref (za Zm 0)), (3, .ref o), (4, .int x4)]) {r : Int64} {σx' σm' σm'' : SG} (hm0 : m_X11_share σx (xs (i + 1)) (xs (i + 2)) = some (.inr false, σx')) (hm1 : m_X12_share σm (xs (i + 1)) (xs (i + 2)) = some (r, σm')) (hm2 : m_X12_thrown σm' = some (2, σm'')) (kk : ∀ (H : Heap) (locs : List Loc) (ls : Array Slot), LI Zx Zm o s σx' σm'' f H locs → lv_has ls 8 [(0, .ref b), (1, .ref (za Zx 155)), (2, .ref (za Zm 0)), (3, .ref o), (4, .int x4)] → W p l e room_1 s m #[Value.ref b] below meth c H locs (cells + 1) (slots + 6) Q (F0 m 723 ls [])) : W p l e room_1 s m #[Value.ref b] below meth c H locs cells slots Q (F0 m 581 ls []) := by
  obtain ⟨hx, hb, hr, hml, hown, hts, hX, hbl, hlocks, hst⟩ := C
  obtain ⟨hJx, hJm, hKx, hKm, hEx, hEm, -, z2, -, -, -, -⟩ := id hZ
  have hbA : ¬ lA s b := Nat.not_le.mpr hbl
  have e1 : (x4 + 1).toNatClampNeg = i + 1 := by rw [ex4, nI_1]; exact nI_clamp (by omega)
  have e2 : (x4 + 2).toNatClampNeg = i + 2 := by rw [ex4, show (2 : Int32) = nI 2 from rfl, nI_add]; exact nI_clamp (by omega)
  have e3 : (x4 + 3).toNatClampNeg = i + 3 := by rw [ex4, show (3 : Int32) = nI 3 from rfl, nI_add]; exact nI_clamp (by omega)
  have in1 : vp_in (x4 + 1) L := by rw [ex4, nI_1]; exact vp_in_nI (by omega) (by omega)
  have in2 : vp_in (x4 + 2) L := by rw [ex4, show (2 : Int32) = nI 2 from rfl, nI_add]; exact vp_in_nI (by omega) (by omega)
  have in3 : vp_in (x4 + 3) L := by rw [ex4, show (3 : Int32) = nI 3 from rfl, nI_add]; exact vp_in_nI (by omega) (by omega)
  refine lv_aload_n hx hb dL_law_581 rfl (lv_at hl 1 rfl) ?_
  refine lv_aload_n hx hb dL_law_582 rfl (lv_at hl 0 rfl) ?_
  refine lv_iload hx hb dL_law_583 (lv_at hl 4 rfl) ?_
  refine lv_iconst (v := 1) hx hb dL_law_585 (by decide) ?_
  refine lv_iadd hx hb dL_law_586 ?_
  refine va_sld hx hb hX hbl hbA hI.2.2.2 in1 dL_law_587 ?_
  rw [e1]
  refine lv_aload_n hx hb dL_law_588 rfl (lv_at hl 0 rfl) ?_
  refine lv_iload hx hb dL_law_589 (lv_at hl 4 rfl) ?_
  refine lv_iconst (v := 2) hx hb dL_law_591 (by decide) ?_
  refine lv_iadd hx hb dL_law_592 ?_
  refine va_sld hx hb hX hbl hbA hI.2.2.2 in2 dL_law_593 ?_
  rw [e2]
  refine lv_aload_n hx hb dL_law_594 rfl (lv_at hl 3 rfl) ?_
  refine lr_s (code := 2) (σx1 := σx') (f1 := f) hZ hI (vx_runSW (As := [.ref (za Zx 155), .int (xs (i + 1)), .int (xs (i + 2)), .ref o]) (rest := []) ⟨hx, hb, hml, hown, hts⟩ (k_L_share_y l hst Zx o σx σx' (xs (i + 1)) (xs (i + 2)) f hm0) (vx_cwSW 4 hts gL_law_L_share rfl rfl rfl ⟨by decide +kernel, by decide +kernel, by decide +kernel⟩ ⟨Nat.le_of_ble_eq_true rfl, Nat.le_of_ble_eq_true rfl⟩) ⟨lf_blind, fun U hU hW => ⟨rfl, wl_at hEx hJx hI.1 hKx hI.2.2.2 hU hW, by rw [hU]; exact hI.2.2.1, z2⟩⟩ rfl rfl hl.1 rfl (lv_room (Nat.le_of_ble_eq_true rfl)) dL_law_595 ⟨Nat.le_trans (Nat.add_le_add_right hcc 1) (Nat.le_of_ble_eq_true rfl), Nat.le_trans (Nat.add_le_add_right hss 6) (Nat.le_of_ble_eq_true rfl)⟩) (fun H locs hI => ?_)
  refine lv_istore (lv' := [(5, .int 2), (0, .ref b), (1, .ref (za Zx 155)), (2, .ref (za Zm 0)), (3, .ref o), (4, .int x4)]) hx hb dL_law_598 hl (by decide) rfl (fun ls hl => ?_)
  refine lv_aload_n hx hb dL_law_600 rfl (lv_at hl 3 rfl) ?_
  refine lv_aload_n hx hb dL_law_601 rfl (lv_at hl 1 rfl) ?_
  refine lv_iload hx hb dL_law_602 (lv_at hl 5 rfl) ?_
  refine lv_iconst (v := 1) hx hb dL_law_604 (by decide) ?_
  refine lv_iadd hx hb dL_law_605 ?_
  refine va_sld hx hb hX hbl hbA hI.2.2.2 in1 dL_law_606 ?_
  rw [e1]
  refine lv_aload_n hx hb dL_law_607 rfl (lv_at hl 1 rfl) ?_
  refine lv_iload hx hb dL_law_608 (lv_at hl 5 rfl) ?_
  refine lv_iconst (v := 2) hx hb dL_law_610 (by decide) ?_
  refine lv_iadd hx hb dL_law_611 ?_
  refine va_sld hx hb hX hbl hbA hI.2.2.2 in2 dL_law_612 ?_
  rw [e2]
  refine lr_ml (res := (r, σm')) hZ hI (va_runV (As := [.int (xs (i + 1)), .int (xs (i + 2))]) (rest := []) ⟨hx, hb, hml, hown, hts⟩ (k_X12_share l Zm σm (xs (i + 1)) (xs (i + 2)) hm1) (cwV 2 hts gL_law_X12_share rfl rfl rfl (by decide +kernel) ⟨Nat.le_of_ble_eq_true rfl, Nat.le_of_ble_eq_true rfl⟩) ⟨wx_blind, wr_recv hKm hI.2.1 (k := 0) (by decide) ((tM_0 Zm) _ _ _) rfl, fun U hU hW => ⟨rfl, wl_at hEm hJm hI.2.1 hKm hI.2.2.2 hU hW⟩⟩ rfl rfl hl.1 rfl (lv_room (Nat.le_of_ble_eq_true rfl)) dL_law_613 ⟨Nat.le_trans (Nat.add_le_add_right hcc 1) (Nat.le_of_ble_eq_true rfl), Nat.le_trans (Nat.add_le_add_right hss 6) (Nat.le_of_ble_eq_true rfl)⟩) (fun H locs hI => ?_)
  refine lv_lstore (lv' := [(6, .long r), (5, .int 2), (0, .ref b), (1, .ref (za Zx 155)), (2, .ref (za Zm 0)), (3, .ref o), (4, .int x4)]) hx hb dL_law_616 hl (by decide) rfl (fun ls hl => ?_)
  refine lv_aload_n hx hb dL_law_618 rfl (lv_at hl 4 rfl) ?_
  refine lr_mi (res := (2, σm'')) hZ hI (va_runV (As := []) (rest := []) ⟨hx, hb, hml, hown, hts⟩ (k_X12_thrown l Zm σm'  hm2) (cwV 0 hts gL_law_X12_thrown rfl rfl rfl (by decide +kernel) ⟨Nat.le_of_ble_eq_true rfl, Nat.le_of_ble_eq_true rfl⟩) ⟨wx_blind, wr_recv hKm hI.2.1 (k := 0) (by decide) ((tM_0 Zm) _ _ _) rfl, fun U hU hW => ⟨rfl, wl_at hEm hJm hI.2.1 hKm hI.2.2.2 hU hW⟩⟩ rfl rfl hl.1 rfl (lv_room (Nat.le_of_ble_eq_true rfl)) dL_law_619 ⟨Nat.le_trans (Nat.add_le_add_right hcc 1) (Nat.le_of_ble_eq_true rfl), Nat.le_trans (Nat.add_le_add_right hss 6) (Nat.le_of_ble_eq_true rfl)⟩) (fun H locs hI => ?_)
  refine lv_iload hx hb dL_law_622 (lv_at hl 1 rfl) ?_
  refine lv_icmp_eq (tgt := 629) hx hb dL_law_624 (by decide) (fun _ => ?_) (fun q => absurd rfl q)
  refine lv_iload hx hb dL_law_629 (lv_at hl 1 rfl) ?_
  refine lv_if_ne (tgt := 645) hx hb dL_law_631 (by decide) (fun _ => ?_) (fun q => absurd q (by decide))
  refine lv_goto (tgt := 723) hx hb dL_law_645 (by decide) ?_
  exact kk H locs ls hI (lv_sub hl [2, 3, 4, 5, 6] rfl)
