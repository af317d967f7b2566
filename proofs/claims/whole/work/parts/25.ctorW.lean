/-! TuneSearch$WordReader.<init>()V  -/
theorem in_X10_init_X2 : ∀ w ∈ wsX20, w ∈ wsX10_init := by decide +kernel
theorem in_X10_init_X10 : ∀ w ∈ wsX100, w ∈ wsX10_init := by decide +kernel
def hpc_X10_init (Z : ZT) (b : Nat) (hp : Nat → va_E) : Nat → va_E := va_up (hpc_X2_init Z b 66 (va_up (va_up (hpc_X2_init Z b 62 (va_up (va_up (hpc_X2_init Z b 58 (va_up (va_up (hpc_X2_init Z b 54 (va_up (va_up (hpc_X2_init Z b 50 (va_up (va_up (hpc_X2_init Z b 46 (va_up (va_up (hpc_X2_init Z b 42 (va_up (va_up (hpc_X2_init Z b 38 (va_up (va_up (hpc_X2_init Z b 34 (va_up (va_up (va_up (hp) 33 (.inl (zc Z 4, 9, .inr (.inr (.inr (.inr (fun _ => none))))))) 32 (.inr (10, [.int 0, .ref (b + 33), .int 0, .int 0, .int 0, .int 0, .int 0, .int 0, .int 0]))) 34 (.inr (2, [.null, .null, .null, .int 0])))) 33 (.inl (zc Z 4, 9, .inr (.inr (.inr (.inr (va_up (fun _ => none) 0 (some (b + 34))))))))) 38 (.inr (2, [.null, .null, .null, .int 0])))) 33 (.inl (zc Z 4, 9, .inr (.inr (.inr (.inr (va_up (va_up (fun _ => none) 0 (some (b + 34))) 1 (some (b + 38))))))))) 42 (.inr (2, [.null, .null, .null, .int 0])))) 33 (.inl (zc Z 4, 9, .inr (.inr (.inr (.inr (va_up (va_up (va_up (fun _ => none) 0 (some (b + 34))) 1 (some (b + 38))) 2 (some (b + 42))))))))) 46 (.inr (2, [.null, .null, .null, .int 0])))) 33 (.inl (zc Z 4, 9, .inr (.inr (.inr (.inr (va_up (va_up (va_up (va_up (fun _ => none) 0 (some (b + 34))) 1 (some (b + 38))) 2 (some (b + 42))) 3 (some (b + 46))))))))) 50 (.inr (2, [.null, .null, .null, .int 0])))) 33 (.inl (zc Z 4, 9, .inr (.inr (.inr (.inr (va_up (va_up (va_up (va_up (va_up (fun _ => none) 0 (some (b + 34))) 1 (some (b + 38))) 2 (some (b + 42))) 3 (some (b + 46))) 4 (some (b + 50))))))))) 54 (.inr (2, [.null, .null, .null, .int 0])))) 33 (.inl (zc Z 4, 9, .inr (.inr (.inr (.inr (va_up (va_up (va_up (va_up (va_up (va_up (fun _ => none) 0 (some (b + 34))) 1 (some (b + 38))) 2 (some (b + 42))) 3 (some (b + 46))) 4 (some (b + 50))) 5 (some (b + 54))))))))) 58 (.inr (2, [.null, .null, .null, .int 0])))) 33 (.inl (zc Z 4, 9, .inr (.inr (.inr (.inr (va_up (va_up (va_up (va_up (va_up (va_up (va_up (fun _ => none) 0 (some (b + 34))) 1 (some (b + 38))) 2 (some (b + 42))) 3 (some (b + 46))) 4 (some (b + 50))) 5 (some (b + 54))) 6 (some (b + 58))))))))) 62 (.inr (2, [.null, .null, .null, .int 0])))) 33 (.inl (zc Z 4, 9, .inr (.inr (.inr (.inr (va_up (va_up (va_up (va_up (va_up (va_up (va_up (va_up (fun _ => none) 0 (some (b + 34))) 1 (some (b + 38))) 2 (some (b + 42))) 3 (some (b + 46))) 4 (some (b + 50))) 5 (some (b + 54))) 6 (some (b + 58))) 7 (some (b + 62))))))))) 66 (.inr (2, [.null, .null, .null, .int 0])))) 33 (.inl (zc Z 4, 9, .inr (.inr (.inr (.inr (va_up (va_up (va_up (va_up (va_up (va_up (va_up (va_up (va_up (fun _ => none) 0 (some (b + 34))) 1 (some (b + 38))) 2 (some (b + 42))) 3 (some (b + 46))) 4 (some (b + 50))) 5 (some (b + 54))) 6 (some (b + 58))) 7 (some (b + 62))) 8 (some (b + 66))))))))
abbrev rm_X10_init : Room := { frames := 3, cells := 37, slots := 126, locals := 52 }
set_option maxHeartbeats 8000000 in
set_option maxRecDepth 100000 in
theorem k_X10_init (l : Launch) (Z : ZT) (b : Nat) (hp : Nat → va_E) (h0 : hp 32 = .inr (10, [.int 0, .null, .int 0, .int 0, .int 0, .int 0, .int 0, .int 0, .int 0])) : Met l yX10_init wsX10_init rm_X10_init (va_Pc [.ref (b + 32)] (gx (zD Z) vwCl (tysX Z) FX b 33 hp)) (gQ (zD Z) vwCl b 70 (hpc_X10_init Z b hp)) 37 126 (gA b) := by
  refine Met.ofW (cc := cX10_init) (maxL := 2) (ret := none) (by decide) rfl ?_
  intro p e s m args below meth c s₁ B hml hv
  obtain ⟨rfl, hF, hG, hK⟩ := hv
  have hx := B.exec
  have hb := B.bytes
  have hr := B.returns
  have hlocks := B.notSynchronized
  have hts := atoms_spec (ws := wsX10_init) B.pre
  have hown : s.vm.findClass RX10 = some m.cls := findClass_of_methodNamed B.named
  have hin : meth.name = "<init>" := (name_of_methodNamed B.named B.method).1
  have hS : va_S (gA b) s.heap s.heap [] := va_S.rf
  have hl := lv_entry ([.ref (b + 32)]) (n := 2) (Nat.le_of_ble_eq_true rfl)
  rw [lg_entry_eq]
  generalize (lg_sl ([.ref (b + 32)]) ++ List.replicate (2 - (lg_sl ([.ref (b + 32)])).length) Slot.unset).toArray = ls at hl ⊢
  have hl : lv_has ls 2 [(0, .ref (b + 32))] := hl
  refine lv_aload_n hx hb dX10_init_0 rfl (lv_at hl 0 rfl) ?_
  refine W.objInit hx hb hown (hts (.methodLink RX10 1 objectInit) (by decide +kernel)) (hts (.instanceMethod objectInit) (by decide +kernel)) (hts (.code objectInit ⟨#[0xb1]⟩ 1 none) (by decide +kernel)) rfl (by rw [hml]; exact hl.1) rfl dX10_init_1 (Nat.le_of_ble_eq_true rfl) (Nat.le_of_ble_eq_true rfl) ?_
  refine W.eq (g2 := F0 m 4 ls []) rfl ?_
  refine lv_aload_n hx hb dX10_init_4 rfl (lv_at hl 0 rfl) ?_
  refine lv_bipush (v := 9) hx hb dX10_init_5 (by decide) ?_
  refine gz_newq (N := 9) hx hb hown (hts (.classLink RX10 9 RX2) (by decide +kernel)) (va_AO.use hF.2.2.2.2.2.2.2.2.2.2.2.1) hK 4 rfl hG hS (by decide) (by decide) (by decide) (Nat.le_of_ble_eq_true rfl) (Nat.le_of_ble_eq_true rfl) dX10_init_7 (fun H hG hS => ?_)
  refine gz_putF (ci := 10) (C := RX10) (T := TX10) (N := 9) (ty := .array (.object "TuneSearch$Level")) (fs := [.int 0, .null, .int 0, .int 0, .int 0, .int 0, .int 0, .int 0, .int 0]) hx hb hts in_X10_init_X10 tyX10 tyX10_ok nmX10 hown hK hG hS 32 (by decide) (by first | rfl | exact h0) rfl 1 (by decide) (hts (.fieldLink RX10 11 "TuneSearch$WordReader" "levels" "[LTuneSearch$Level;") (by decide +kernel)) (fun _ h9 => h9) rfl hin rfl (by decide +kernel) rfl rfl (Nat.le_of_ble_eq_true rfl) dX10_init_10 (fun H locs hG hS => ?_)
  refine lv_iconst (v := 0) hx hb dX10_init_13 (by decide) ?_
  refine lv_istore_n (lv' := [(1, .int 0), (0, .ref (b + 32))]) hx hb dX10_init_14 rfl hl (by decide) rfl (fun ls hl => ?_)
  refine lv_iload_n hx hb dX10_init_15 rfl (lv_at hl 0 rfl) ?_
  refine lv_bipush (v := 8) hx hb dX10_init_16 (by decide) ?_
  refine lv_icmp_gt (tgt := 40) hx hb dX10_init_18 (by decide) (fun q => absurd q (by decide)) (fun _ => ?_)
  refine lv_aload_n hx hb dX10_init_21 rfl (lv_at hl 1 rfl) ?_
  refine gz_get (ci := 10) (C := RX10) (T := TX10) (N := 9) (fs := [.int 0, .ref (b + 33), .int 0, .int 0, .int 0, .int 0, .int 0, .int 0, .int 0]) hx hb hts in_X10_init_X10 hown hK hG 32 (by decide) (by first | rfl | exact h0) rfl 1 (by decide) (hts (.fieldLink RX10 11 "TuneSearch$WordReader" "levels" "[LTuneSearch$Level;") (by decide +kernel)) (fun _ h9 => h9) rfl dX10_init_22 ?_
  refine lv_iload_n hx hb dX10_init_25 rfl (lv_at hl 0 rfl) ?_
  refine gz_new (C := RX2) (T := TX2) (N := 4) (ci := 2) (fs := [.null, .null, .null, .int 0]) hx hb hts in_X10_init_X2 tyX2 tyX2_ok hown (hts (.classLink RX10 9 RX2) (by decide +kernel)) (hts (.instantiable RX2 4) (by decide +kernel)) (hts (.initialized RX2) (by decide +kernel)) hK hG hS rfl bl_X2 (Nat.le_of_ble_eq_true rfl) (Nat.le_of_ble_eq_true rfl) dX10_init_26 (fun H hG hS => ?_)
  refine lv_dup hx hb dX10_init_29 rfl ?_
  refine gz_call (va_runIN (As := []) (rest := [.ref (b + 34), .int 0, .ref (b + 33)]) ⟨hx, hb, hml, hown, hts⟩ (k_X2_init l Z b 34 _ (by first | rfl | exact h0)) ⟨va_cnB 0 hts gX10_init_X2_init_n15 rfl rfl rfl hF.2.2.1 (hts (.initialized RX2) (by decide +kernel)) (by decide +kernel) ⟨Nat.le_of_ble_eq_true rfl, Nat.le_of_ble_eq_true rfl⟩, rfl, hts (.instanceMethod yX2_init) (by decide +kernel)⟩ ⟨gx_blind, fun U hU hW => ⟨rfl, gx_at hF hG hK hU hW⟩⟩ rfl rfl hl.1 rfl (lv_room (Nat.le_of_ble_eq_true rfl)) dX10_init_30 ⟨Nat.le_of_ble_eq_true rfl, Nat.le_of_ble_eq_true rfl⟩) hS (fun H locs hG hS => ?_)
  refine gz_aast (r := (RX2, TX2, 4)) (f := fun _ => none) (vs := [.ref (b + 35), .ref (b + 36), .ref (b + 37), .int 0]) hx hb hK hG hS 33 34 4 2 (by decide) (by decide) (by first | rfl | exact h0) rfl (by first | rfl | exact h0) rfl (by unfold vp_in; decide) dX10_init_33 (fun H locs hG hS => ?_)
  refine lv_iinc (v := 1) (lv' := [(1, .int 1), (0, .ref (b + 32))]) hx hb dX10_init_34 hl (k := 0) rfl (by decide) (by decide) rfl (fun ls hl => ?_)
  refine lv_goto (tgt := 15) hx hb dX10_init_37 (by decide) ?_
  refine lv_iload_n hx hb dX10_init_15 rfl (lv_at hl 0 rfl) ?_
  refine lv_bipush (v := 8) hx hb dX10_init_16 (by decide) ?_
  refine lv_icmp_gt (tgt := 40) hx hb dX10_init_18 (by decide) (fun q => absurd q (by decide)) (fun _ => ?_)
  refine lv_aload_n hx hb dX10_init_21 rfl (lv_at hl 1 rfl) ?_
  refine gz_get (ci := 10) (C := RX10) (T := TX10) (N := 9) (fs := [.int 0, .ref (b + 33), .int 0, .int 0, .int 0, .int 0, .int 0, .int 0, .int 0]) hx hb hts in_X10_init_X10 hown hK hG 32 (by decide) (by first | rfl | exact h0) rfl 1 (by decide) (hts (.fieldLink RX10 11 "TuneSearch$WordReader" "levels" "[LTuneSearch$Level;") (by decide +kernel)) (fun _ h9 => h9) rfl dX10_init_22 ?_
  refine lv_iload_n hx hb dX10_init_25 rfl (lv_at hl 0 rfl) ?_
  refine gz_new (C := RX2) (T := TX2) (N := 4) (ci := 2) (fs := [.null, .null, .null, .int 0]) hx hb hts in_X10_init_X2 tyX2 tyX2_ok hown (hts (.classLink RX10 9 RX2) (by decide +kernel)) (hts (.instantiable RX2 4) (by decide +kernel)) (hts (.initialized RX2) (by decide +kernel)) hK hG hS rfl bl_X2 (Nat.le_of_ble_eq_true rfl) (Nat.le_of_ble_eq_true rfl) dX10_init_26 (fun H hG hS => ?_)
  refine lv_dup hx hb dX10_init_29 rfl ?_
  refine gz_call (va_runIN (As := []) (rest := [.ref (b + 38), .int 1, .ref (b + 33)]) ⟨hx, hb, hml, hown, hts⟩ (k_X2_init l Z b 38 _ (by first | rfl | exact h0)) ⟨va_cnB 0 hts gX10_init_X2_init_n15 rfl rfl rfl hF.2.2.1 (hts (.initialized RX2) (by decide +kernel)) (by decide +kernel) ⟨Nat.le_of_ble_eq_true rfl, Nat.le_of_ble_eq_true rfl⟩, rfl, hts (.instanceMethod yX2_init) (by decide +kernel)⟩ ⟨gx_blind, fun U hU hW => ⟨rfl, gx_at hF hG hK hU hW⟩⟩ rfl rfl hl.1 rfl (lv_room (Nat.le_of_ble_eq_true rfl)) dX10_init_30 ⟨Nat.le_of_ble_eq_true rfl, Nat.le_of_ble_eq_true rfl⟩) hS (fun H locs hG hS => ?_)
  refine gz_aast (r := (RX2, TX2, 4)) (f := va_up (fun _ => none) 0 (some (b + 34))) (vs := [.ref (b + 39), .ref (b + 40), .ref (b + 41), .int 0]) hx hb hK hG hS 33 38 4 2 (by decide) (by decide) (by first | rfl | exact h0) rfl (by first | rfl | exact h0) rfl (by unfold vp_in; decide) dX10_init_33 (fun H locs hG hS => ?_)
  refine lv_iinc (v := 2) (lv' := [(1, .int 2), (0, .ref (b + 32))]) hx hb dX10_init_34 hl (k := 0) rfl (by decide) (by decide) rfl (fun ls hl => ?_)
  refine lv_goto (tgt := 15) hx hb dX10_init_37 (by decide) ?_
  refine lv_iload_n hx hb dX10_init_15 rfl (lv_at hl 0 rfl) ?_
  refine lv_bipush (v := 8) hx hb dX10_init_16 (by decide) ?_
  refine lv_icmp_gt (tgt := 40) hx hb dX10_init_18 (by decide) (fun q => absurd q (by decide)) (fun _ => ?_)
  refine lv_aload_n hx hb dX10_init_21 rfl (lv_at hl 1 rfl) ?_
  refine gz_get (ci := 10) (C := RX10) (T := TX10) (N := 9) (fs := [.int 0, .ref (b + 33), .int 0, .int 0, .int 0, .int 0, .int 0, .int 0, .int 0]) hx hb hts in_X10_init_X10 hown hK hG 32 (by decide) (by first | rfl | exact h0) rfl 1 (by decide) (hts (.fieldLink RX10 11 "TuneSearch$WordReader" "levels" "[LTuneSearch$Level;") (by decide +kernel)) (fun _ h9 => h9) rfl dX10_init_22 ?_
  refine lv_iload_n hx hb dX10_init_25 rfl (lv_at hl 0 rfl) ?_
  refine gz_new (C := RX2) (T := TX2) (N := 4) (ci := 2) (fs := [.null, .null, .null, .int 0]) hx hb hts in_X10_init_X2 tyX2 tyX2_ok hown (hts (.classLink RX10 9 RX2) (by decide +kernel)) (hts (.instantiable RX2 4) (by decide +kernel)) (hts (.initialized RX2) (by decide +kernel)) hK hG hS rfl bl_X2 (Nat.le_of_ble_eq_true rfl) (Nat.le_of_ble_eq_true rfl) dX10_init_26 (fun H hG hS => ?_)
  refine lv_dup hx hb dX10_init_29 rfl ?_
  refine gz_call (va_runIN (As := []) (rest := [.ref (b + 42), .int 2, .ref (b + 33)]) ⟨hx, hb, hml, hown, hts⟩ (k_X2_init l Z b 42 _ (by first | rfl | exact h0)) ⟨va_cnB 0 hts gX10_init_X2_init_n15 rfl rfl rfl hF.2.2.1 (hts (.initialized RX2) (by decide +kernel)) (by decide +kernel) ⟨Nat.le_of_ble_eq_true rfl, Nat.le_of_ble_eq_true rfl⟩, rfl, hts (.instanceMethod yX2_init) (by decide +kernel)⟩ ⟨gx_blind, fun U hU hW => ⟨rfl, gx_at hF hG hK hU hW⟩⟩ rfl rfl hl.1 rfl (lv_room (Nat.le_of_ble_eq_true rfl)) dX10_init_30 ⟨Nat.le_of_ble_eq_true rfl, Nat.le_of_ble_eq_true rfl⟩) hS (fun H locs hG hS => ?_)
  refine gz_aast (r := (RX2, TX2, 4)) (f := va_up (va_up (fun _ => none) 0 (some (b + 34))) 1 (some (b + 38))) (vs := [.ref (b + 43), .ref (b + 44), .ref (b + 45), .int 0]) hx hb hK hG hS 33 42 4 2 (by decide) (by decide) (by first | rfl | exact h0) rfl (by first | rfl | exact h0) rfl (by unfold vp_in; decide) dX10_init_33 (fun H locs hG hS => ?_)
  refine lv_iinc (v := 3) (lv' := [(1, .int 3), (0, .ref (b + 32))]) hx hb dX10_init_34 hl (k := 0) rfl (by decide) (by decide) rfl (fun ls hl => ?_)
  refine lv_goto (tgt := 15) hx hb dX10_init_37 (by decide) ?_
  refine lv_iload_n hx hb dX10_init_15 rfl (lv_at hl 0 rfl) ?_
  refine lv_bipush (v := 8) hx hb dX10_init_16 (by decide) ?_
  refine lv_icmp_gt (tgt := 40) hx hb dX10_init_18 (by decide) (fun q => absurd q (by decide)) (fun _ => ?_)
  refine lv_aload_n hx hb dX10_init_21 rfl (lv_at hl 1 rfl) ?_
  refine gz_get (ci := 10) (C := RX10) (T := TX10) (N := 9) (fs := [.int 0, .ref (b + 33), .int 0, .int 0, .int 0, .int 0, .int 0, .int 0, .int 0]) hx hb hts in_X10_init_X10 hown hK hG 32 (by decide) (by first | rfl | exact h0) rfl 1 (by decide) (hts (.fieldLink RX10 11 "TuneSearch$WordReader" "levels" "[LTuneSearch$Level;") (by decide +kernel)) (fun _ h9 => h9) rfl dX10_init_22 ?_
  refine lv_iload_n hx hb dX10_init_25 rfl (lv_at hl 0 rfl) ?_
  refine gz_new (C := RX2) (T := TX2) (N := 4) (ci := 2) (fs := [.null, .null, .null, .int 0]) hx hb hts in_X10_init_X2 tyX2 tyX2_ok hown (hts (.classLink RX10 9 RX2) (by decide +kernel)) (hts (.instantiable RX2 4) (by decide +kernel)) (hts (.initialized RX2) (by decide +kernel)) hK hG hS rfl bl_X2 (Nat.le_of_ble_eq_true rfl) (Nat.le_of_ble_eq_true rfl) dX10_init_26 (fun H hG hS => ?_)
  refine lv_dup hx hb dX10_init_29 rfl ?_
  refine gz_call (va_runIN (As := []) (rest := [.ref (b + 46), .int 3, .ref (b + 33)]) ⟨hx, hb, hml, hown, hts⟩ (k_X2_init l Z b 46 _ (by first | rfl | exact h0)) ⟨va_cnB 0 hts gX10_init_X2_init_n15 rfl rfl rfl hF.2.2.1 (hts (.initialized RX2) (by decide +kernel)) (by decide +kernel) ⟨Nat.le_of_ble_eq_true rfl, Nat.le_of_ble_eq_true rfl⟩, rfl, hts (.instanceMethod yX2_init) (by decide +kernel)⟩ ⟨gx_blind, fun U hU hW => ⟨rfl, gx_at hF hG hK hU hW⟩⟩ rfl rfl hl.1 rfl (lv_room (Nat.le_of_ble_eq_true rfl)) dX10_init_30 ⟨Nat.le_of_ble_eq_true rfl, Nat.le_of_ble_eq_true rfl⟩) hS (fun H locs hG hS => ?_)
  refine gz_aast (r := (RX2, TX2, 4)) (f := va_up (va_up (va_up (fun _ => none) 0 (some (b + 34))) 1 (some (b + 38))) 2 (some (b + 42))) (vs := [.ref (b + 47), .ref (b + 48), .ref (b + 49), .int 0]) hx hb hK hG hS 33 46 4 2 (by decide) (by decide) (by first | rfl | exact h0) rfl (by first | rfl | exact h0) rfl (by unfold vp_in; decide) dX10_init_33 (fun H locs hG hS => ?_)
  refine lv_iinc (v := 4) (lv' := [(1, .int 4), (0, .ref (b + 32))]) hx hb dX10_init_34 hl (k := 0) rfl (by decide) (by decide) rfl (fun ls hl => ?_)
  refine lv_goto (tgt := 15) hx hb dX10_init_37 (by decide) ?_
  refine lv_iload_n hx hb dX10_init_15 rfl (lv_at hl 0 rfl) ?_
  refine lv_bipush (v := 8) hx hb dX10_init_16 (by decide) ?_
  refine lv_icmp_gt (tgt := 40) hx hb dX10_init_18 (by decide) (fun q => absurd q (by decide)) (fun _ => ?_)
  refine lv_aload_n hx hb dX10_init_21 rfl (lv_at hl 1 rfl) ?_
  refine gz_get (ci := 10) (C := RX10) (T := TX10) (N := 9) (fs := [.int 0, .ref (b + 33), .int 0, .int 0, .int 0, .int 0, .int 0, .int 0, .int 0]) hx hb hts in_X10_init_X10 hown hK hG 32 (by decide) (by first | rfl | exact h0) rfl 1 (by decide) (hts (.fieldLink RX10 11 "TuneSearch$WordReader" "levels" "[LTuneSearch$Level;") (by decide +kernel)) (fun _ h9 => h9) rfl dX10_init_22 ?_
  refine lv_iload_n hx hb dX10_init_25 rfl (lv_at hl 0 rfl) ?_
  refine gz_new (C := RX2) (T := TX2) (N := 4) (ci := 2) (fs := [.null, .null, .null, .int 0]) hx hb hts in_X10_init_X2 tyX2 tyX2_ok hown (hts (.classLink RX10 9 RX2) (by decide +kernel)) (hts (.instantiable RX2 4) (by decide +kernel)) (hts (.initialized RX2) (by decide +kernel)) hK hG hS rfl bl_X2 (Nat.le_of_ble_eq_true rfl) (Nat.le_of_ble_eq_true rfl) dX10_init_26 (fun H hG hS => ?_)
  refine lv_dup hx hb dX10_init_29 rfl ?_
  refine gz_call (va_runIN (As := []) (rest := [.ref (b + 50), .int 4, .ref (b + 33)]) ⟨hx, hb, hml, hown, hts⟩ (k_X2_init l Z b 50 _ (by first | rfl | exact h0)) ⟨va_cnB 0 hts gX10_init_X2_init_n15 rfl rfl rfl hF.2.2.1 (hts (.initialized RX2) (by decide +kernel)) (by decide +kernel) ⟨Nat.le_of_ble_eq_true rfl, Nat.le_of_ble_eq_true rfl⟩, rfl, hts (.instanceMethod yX2_init) (by decide +kernel)⟩ ⟨gx_blind, fun U hU hW => ⟨rfl, gx_at hF hG hK hU hW⟩⟩ rfl rfl hl.1 rfl (lv_room (Nat.le_of_ble_eq_true rfl)) dX10_init_30 ⟨Nat.le_of_ble_eq_true rfl, Nat.le_of_ble_eq_true rfl⟩) hS (fun H locs hG hS => ?_)
  refine gz_aast (r := (RX2, TX2, 4)) (f := va_up (va_up (va_up (va_up (fun _ => none) 0 (some (b + 34))) 1 (some (b + 38))) 2 (some (b + 42))) 3 (some (b + 46))) (vs := [.ref (b + 51), .ref (b + 52), .ref (b + 53), .int 0]) hx hb hK hG hS 33 50 4 2 (by decide) (by decide) (by first | rfl | exact h0) rfl (by first | rfl | exact h0) rfl (by unfold vp_in; decide) dX10_init_33 (fun H locs hG hS => ?_)
  refine lv_iinc (v := 5) (lv' := [(1, .int 5), (0, .ref (b + 32))]) hx hb dX10_init_34 hl (k := 0) rfl (by decide) (by decide) rfl (fun ls hl => ?_)
  refine lv_goto (tgt := 15) hx hb dX10_init_37 (by decide) ?_
  refine lv_iload_n hx hb dX10_init_15 rfl (lv_at hl 0 rfl) ?_
  refine lv_bipush (v := 8) hx hb dX10_init_16 (by decide) ?_
  refine lv_icmp_gt (tgt := 40) hx hb dX10_init_18 (by decide) (fun q => absurd q (by decide)) (fun _ => ?_)
  refine lv_aload_n hx hb dX10_init_21 rfl (lv_at hl 1 rfl) ?_
  refine gz_get (ci := 10) (C := RX10) (T := TX10) (N := 9) (fs := [.int 0, .ref (b + 33), .int 0, .int 0, .int 0, .int 0, .int 0, .int 0, .int 0]) hx hb hts in_X10_init_X10 hown hK hG 32 (by decide) (by first | rfl | exact h0) rfl 1 (by decide) (hts (.fieldLink RX10 11 "TuneSearch$WordReader" "levels" "[LTuneSearch$Level;") (by decide +kernel)) (fun _ h9 => h9) rfl dX10_init_22 ?_
  refine lv_iload_n hx hb dX10_init_25 rfl (lv_at hl 0 rfl) ?_
  refine gz_new (C := RX2) (T := TX2) (N := 4) (ci := 2) (fs := [.null, .null, .null, .int 0]) hx hb hts in_X10_init_X2 tyX2 tyX2_ok hown (hts (.classLink RX10 9 RX2) (by decide +kernel)) (hts (.instantiable RX2 4) (by decide +kernel)) (hts (.initialized RX2) (by decide +kernel)) hK hG hS rfl bl_X2 (Nat.le_of_ble_eq_true rfl) (Nat.le_of_ble_eq_true rfl) dX10_init_26 (fun H hG hS => ?_)
  refine lv_dup hx hb dX10_init_29 rfl ?_
  refine gz_call (va_runIN (As := []) (rest := [.ref (b + 54), .int 5, .ref (b + 33)]) ⟨hx, hb, hml, hown, hts⟩ (k_X2_init l Z b 54 _ (by first | rfl | exact h0)) ⟨va_cnB 0 hts gX10_init_X2_init_n15 rfl rfl rfl hF.2.2.1 (hts (.initialized RX2) (by decide +kernel)) (by decide +kernel) ⟨Nat.le_of_ble_eq_true rfl, Nat.le_of_ble_eq_true rfl⟩, rfl, hts (.instanceMethod yX2_init) (by decide +kernel)⟩ ⟨gx_blind, fun U hU hW => ⟨rfl, gx_at hF hG hK hU hW⟩⟩ rfl rfl hl.1 rfl (lv_room (Nat.le_of_ble_eq_true rfl)) dX10_init_30 ⟨Nat.le_of_ble_eq_true rfl, Nat.le_of_ble_eq_true rfl⟩) hS (fun H locs hG hS => ?_)
  refine gz_aast (r := (RX2, TX2, 4)) (f := va_up (va_up (va_up (va_up (va_up (fun _ => none) 0 (some (b + 34))) 1 (some (b + 38))) 2 (some (b + 42))) 3 (some (b + 46))) 4 (some (b + 50))) (vs := [.ref (b + 55), .ref (b + 56), .ref (b + 57), .int 0]) hx hb hK hG hS 33 54 4 2 (by decide) (by decide) (by first | rfl | exact h0) rfl (by first | rfl | exact h0) rfl (by unfold vp_in; decide) dX10_init_33 (fun H locs hG hS => ?_)
  refine lv_iinc (v := 6) (lv' := [(1, .int 6), (0, .ref (b + 32))]) hx hb dX10_init_34 hl (k := 0) rfl (by decide) (by decide) rfl (fun ls hl => ?_)
  refine lv_goto (tgt := 15) hx hb dX10_init_37 (by decide) ?_
  refine lv_iload_n hx hb dX10_init_15 rfl (lv_at hl 0 rfl) ?_
  refine lv_bipush (v := 8) hx hb dX10_init_16 (by decide) ?_
  refine lv_icmp_gt (tgt := 40) hx hb dX10_init_18 (by decide) (fun q => absurd q (by decide)) (fun _ => ?_)
  refine lv_aload_n hx hb dX10_init_21 rfl (lv_at hl 1 rfl) ?_
  refine gz_get (ci := 10) (C := RX10) (T := TX10) (N := 9) (fs := [.int 0, .ref (b + 33), .int 0, .int 0, .int 0, .int 0, .int 0, .int 0, .int 0]) hx hb hts in_X10_init_X10 hown hK hG 32 (by decide) (by first | rfl | exact h0) rfl 1 (by decide) (hts (.fieldLink RX10 11 "TuneSearch$WordReader" "levels" "[LTuneSearch$Level;") (by decide +kernel)) (fun _ h9 => h9) rfl dX10_init_22 ?_
  refine lv_iload_n hx hb dX10_init_25 rfl (lv_at hl 0 rfl) ?_
  refine gz_new (C := RX2) (T := TX2) (N := 4) (ci := 2) (fs := [.null, .null, .null, .int 0]) hx hb hts in_X10_init_X2 tyX2 tyX2_ok hown (hts (.classLink RX10 9 RX2) (by decide +kernel)) (hts (.instantiable RX2 4) (by decide +kernel)) (hts (.initialized RX2) (by decide +kernel)) hK hG hS rfl bl_X2 (Nat.le_of_ble_eq_true rfl) (Nat.le_of_ble_eq_true rfl) dX10_init_26 (fun H hG hS => ?_)
  refine lv_dup hx hb dX10_init_29 rfl ?_
  refine gz_call (va_runIN (As := []) (rest := [.ref (b + 58), .int 6, .ref (b + 33)]) ⟨hx, hb, hml, hown, hts⟩ (k_X2_init l Z b 58 _ (by first | rfl | exact h0)) ⟨va_cnB 0 hts gX10_init_X2_init_n15 rfl rfl rfl hF.2.2.1 (hts (.initialized RX2) (by decide +kernel)) (by decide +kernel) ⟨Nat.le_of_ble_eq_true rfl, Nat.le_of_ble_eq_true rfl⟩, rfl, hts (.instanceMethod yX2_init) (by decide +kernel)⟩ ⟨gx_blind, fun U hU hW => ⟨rfl, gx_at hF hG hK hU hW⟩⟩ rfl rfl hl.1 rfl (lv_room (Nat.le_of_ble_eq_true rfl)) dX10_init_30 ⟨Nat.le_of_ble_eq_true rfl, Nat.le_of_ble_eq_true rfl⟩) hS (fun H locs hG hS => ?_)
  refine gz_aast (r := (RX2, TX2, 4)) (f := va_up (va_up (va_up (va_up (va_up (va_up (fun _ => none) 0 (some (b + 34))) 1 (some (b + 38))) 2 (some (b + 42))) 3 (some (b + 46))) 4 (some (b + 50))) 5 (some (b + 54))) (vs := [.ref (b + 59), .ref (b + 60), .ref (b + 61), .int 0]) hx hb hK hG hS 33 58 4 2 (by decide) (by decide) (by first | rfl | exact h0) rfl (by first | rfl | exact h0) rfl (by unfold vp_in; decide) dX10_init_33 (fun H locs hG hS => ?_)
  refine lv_iinc (v := 7) (lv' := [(1, .int 7), (0, .ref (b + 32))]) hx hb dX10_init_34 hl (k := 0) rfl (by decide) (by decide) rfl (fun ls hl => ?_)
  refine lv_goto (tgt := 15) hx hb dX10_init_37 (by decide) ?_
  refine lv_iload_n hx hb dX10_init_15 rfl (lv_at hl 0 rfl) ?_
  refine lv_bipush (v := 8) hx hb dX10_init_16 (by decide) ?_
  refine lv_icmp_gt (tgt := 40) hx hb dX10_init_18 (by decide) (fun q => absurd q (by decide)) (fun _ => ?_)
  refine lv_aload_n hx hb dX10_init_21 rfl (lv_at hl 1 rfl) ?_
  refine gz_get (ci := 10) (C := RX10) (T := TX10) (N := 9) (fs := [.int 0, .ref (b + 33), .int 0, .int 0, .int 0, .int 0, .int 0, .int 0, .int 0]) hx hb hts in_X10_init_X10 hown hK hG 32 (by decide) (by first | rfl | exact h0) rfl 1 (by decide) (hts (.fieldLink RX10 11 "TuneSearch$WordReader" "levels" "[LTuneSearch$Level;") (by decide +kernel)) (fun _ h9 => h9) rfl dX10_init_22 ?_
  refine lv_iload_n hx hb dX10_init_25 rfl (lv_at hl 0 rfl) ?_
  refine gz_new (C := RX2) (T := TX2) (N := 4) (ci := 2) (fs := [.null, .null, .null, .int 0]) hx hb hts in_X10_init_X2 tyX2 tyX2_ok hown (hts (.classLink RX10 9 RX2) (by decide +kernel)) (hts (.instantiable RX2 4) (by decide +kernel)) (hts (.initialized RX2) (by decide +kernel)) hK hG hS rfl bl_X2 (Nat.le_of_ble_eq_true rfl) (Nat.le_of_ble_eq_true rfl) dX10_init_26 (fun H hG hS => ?_)
  refine lv_dup hx hb dX10_init_29 rfl ?_
  refine gz_call (va_runIN (As := []) (rest := [.ref (b + 62), .int 7, .ref (b + 33)]) ⟨hx, hb, hml, hown, hts⟩ (k_X2_init l Z b 62 _ (by first | rfl | exact h0)) ⟨va_cnB 0 hts gX10_init_X2_init_n15 rfl rfl rfl hF.2.2.1 (hts (.initialized RX2) (by decide +kernel)) (by decide +kernel) ⟨Nat.le_of_ble_eq_true rfl, Nat.le_of_ble_eq_true rfl⟩, rfl, hts (.instanceMethod yX2_init) (by decide +kernel)⟩ ⟨gx_blind, fun U hU hW => ⟨rfl, gx_at hF hG hK hU hW⟩⟩ rfl rfl hl.1 rfl (lv_room (Nat.le_of_ble_eq_true rfl)) dX10_init_30 ⟨Nat.le_of_ble_eq_true rfl, Nat.le_of_ble_eq_true rfl⟩) hS (fun H locs hG hS => ?_)
  refine gz_aast (r := (RX2, TX2, 4)) (f := va_up (va_up (va_up (va_up (va_up (va_up (va_up (fun _ => none) 0 (some (b + 34))) 1 (some (b + 38))) 2 (some (b + 42))) 3 (some (b + 46))) 4 (some (b + 50))) 5 (some (b + 54))) 6 (some (b + 58))) (vs := [.ref (b + 63), .ref (b + 64), .ref (b + 65), .int 0]) hx hb hK hG hS 33 62 4 2 (by decide) (by decide) (by first | rfl | exact h0) rfl (by first | rfl | exact h0) rfl (by unfold vp_in; decide) dX10_init_33 (fun H locs hG hS => ?_)
  refine lv_iinc (v := 8) (lv' := [(1, .int 8), (0, .ref (b + 32))]) hx hb dX10_init_34 hl (k := 0) rfl (by decide) (by decide) rfl (fun ls hl => ?_)
  refine lv_goto (tgt := 15) hx hb dX10_init_37 (by decide) ?_
  refine lv_iload_n hx hb dX10_init_15 rfl (lv_at hl 0 rfl) ?_
  refine lv_bipush (v := 8) hx hb dX10_init_16 (by decide) ?_
  refine lv_icmp_gt (tgt := 40) hx hb dX10_init_18 (by decide) (fun q => absurd q (by decide)) (fun _ => ?_)
  refine lv_aload_n hx hb dX10_init_21 rfl (lv_at hl 1 rfl) ?_
  refine gz_get (ci := 10) (C := RX10) (T := TX10) (N := 9) (fs := [.int 0, .ref (b + 33), .int 0, .int 0, .int 0, .int 0, .int 0, .int 0, .int 0]) hx hb hts in_X10_init_X10 hown hK hG 32 (by decide) (by first | rfl | exact h0) rfl 1 (by decide) (hts (.fieldLink RX10 11 "TuneSearch$WordReader" "levels" "[LTuneSearch$Level;") (by decide +kernel)) (fun _ h9 => h9) rfl dX10_init_22 ?_
  refine lv_iload_n hx hb dX10_init_25 rfl (lv_at hl 0 rfl) ?_
  refine gz_new (C := RX2) (T := TX2) (N := 4) (ci := 2) (fs := [.null, .null, .null, .int 0]) hx hb hts in_X10_init_X2 tyX2 tyX2_ok hown (hts (.classLink RX10 9 RX2) (by decide +kernel)) (hts (.instantiable RX2 4) (by decide +kernel)) (hts (.initialized RX2) (by decide +kernel)) hK hG hS rfl bl_X2 (Nat.le_of_ble_eq_true rfl) (Nat.le_of_ble_eq_true rfl) dX10_init_26 (fun H hG hS => ?_)
  refine lv_dup hx hb dX10_init_29 rfl ?_
  refine gz_call (va_runIN (As := []) (rest := [.ref (b + 66), .int 8, .ref (b + 33)]) ⟨hx, hb, hml, hown, hts⟩ (k_X2_init l Z b 66 _ (by first | rfl | exact h0)) ⟨va_cnB 0 hts gX10_init_X2_init_n15 rfl rfl rfl hF.2.2.1 (hts (.initialized RX2) (by decide +kernel)) (by decide +kernel) ⟨Nat.le_of_ble_eq_true rfl, Nat.le_of_ble_eq_true rfl⟩, rfl, hts (.instanceMethod yX2_init) (by decide +kernel)⟩ ⟨gx_blind, fun U hU hW => ⟨rfl, gx_at hF hG hK hU hW⟩⟩ rfl rfl hl.1 rfl (lv_room (Nat.le_of_ble_eq_true rfl)) dX10_init_30 ⟨Nat.le_of_ble_eq_true rfl, Nat.le_of_ble_eq_true rfl⟩) hS (fun H locs hG hS => ?_)
  refine gz_aast (r := (RX2, TX2, 4)) (f := va_up (va_up (va_up (va_up (va_up (va_up (va_up (va_up (fun _ => none) 0 (some (b + 34))) 1 (some (b + 38))) 2 (some (b + 42))) 3 (some (b + 46))) 4 (some (b + 50))) 5 (some (b + 54))) 6 (some (b + 58))) 7 (some (b + 62))) (vs := [.ref (b + 67), .ref (b + 68), .ref (b + 69), .int 0]) hx hb hK hG hS 33 66 4 2 (by decide) (by decide) (by first | rfl | exact h0) rfl (by first | rfl | exact h0) rfl (by unfold vp_in; decide) dX10_init_33 (fun H locs hG hS => ?_)
  refine lv_iinc (v := 9) (lv' := [(1, .int 9), (0, .ref (b + 32))]) hx hb dX10_init_34 hl (k := 0) rfl (by decide) (by decide) rfl (fun ls hl => ?_)
  refine lv_goto (tgt := 15) hx hb dX10_init_37 (by decide) ?_
  refine lv_iload_n hx hb dX10_init_15 rfl (lv_at hl 0 rfl) ?_
  refine lv_bipush (v := 8) hx hb dX10_init_16 (by decide) ?_
  refine lv_icmp_gt (tgt := 40) hx hb dX10_init_18 (by decide) (fun _ => ?_) (fun q => absurd (by decide) q)
  exact gz_ret hx hb hr hlocks hG hS dX10_init_40

