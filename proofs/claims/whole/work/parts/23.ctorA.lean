theorem bl_X0 : ∀ j, j < 11 → defaultValue (tyX0 j) = vp_V [.null, .null, .null, .null, .null, .null, .null, .null, .null, .null, .null] j := by decide +kernel
theorem bl_X1 : ∀ j, j < 3 → defaultValue (tyX1 j) = vp_V [.int 0, .null, .null] j := by decide +kernel
theorem bl_X2 : ∀ j, j < 4 → defaultValue (tyX2 j) = vp_V [.null, .null, .null, .int 0] j := by decide +kernel
theorem bl_X3 : ∀ j, j < 5 → defaultValue (tyX3 j) = vp_V [.null, .null, .null, .int 0, .int 0] j := by decide +kernel
theorem bl_X4 : ∀ j, j < 3 → defaultValue (tyX4 j) = vp_V [.null, .null, .int 0] j := by decide +kernel
theorem bl_X5 : ∀ j, j < 3 → defaultValue (tyX5 j) = vp_V [.int 0, .long 0, .long 0] j := by decide +kernel
theorem bl_X6 : ∀ j, j < 2 → defaultValue (tyX6 j) = vp_V [.null, .int 0] j := by decide +kernel
theorem bl_X7 : ∀ j, j < 2 → defaultValue (tyX7 j) = vp_V [.null, .int 0] j := by decide +kernel
theorem bl_X8 : ∀ j, j < 10 → defaultValue (tyX8 j) = vp_V [.null, .null, .null, .null, .int 0, .int 0, .int 0, .int 0, .int 0, .int 0] j := by decide +kernel
theorem bl_X9 : ∀ j, j < 8 → defaultValue (tyX9 j) = vp_V [.int 0, .long 0, .long 0, .null, .null, .null, .null, .int 0] j := by decide +kernel
theorem bl_X10 : ∀ j, j < 9 → defaultValue (tyX10 j) = vp_V [.int 0, .null, .int 0, .int 0, .int 0, .int 0, .int 0, .int 0, .int 0] j := by decide +kernel
theorem bl_X11 : ∀ j, j < 16 → defaultValue (tyX11 j) = vp_V [.null, .int 0, .null, .null, .null, .null, .null, .null, .int 0, .int 0, .null, .null, .null, .null, .null, .int 0] j := by decide +kernel
theorem bl_X12 : ∀ j, j < 41 → defaultValue (tyX12 j) = vp_V [.int 0, .null, .null, .null, .int 0, .null, .null, .int 0, .int 0, .int 0, .int 0, .int 0, .int 0, .int 0, .int 0, .null, .null, .null, .int 0, .int 0, .int 0, .int 0, .null, .int 0, .null, .int 0, .null, .null, .null, .null, .null, .null, .null, .null, .null, .null, .null, .null, .long 0, .null, .int 0] j := by decide +kernel
def FX (U : State) : Prop := va_Nw (.methodLinkNest RX11 34 yX7_init RX11) U ∧ va_Nw (.methodLinkNest RX10 15 yX2_init RX11) U ∧ va_Nw (.methodLinkNest RX2 9 yX5_init RX11) U ∧ va_Nw (.methodLinkNest RX11 48 yX9_init RX11) U ∧ va_Nw (.methodLinkNest RX11 58 yX6_init RX11) U ∧ va_Nw (.methodLinkNest RX11 65 yX8_init RX11) U ∧ va_Nw (.methodLinkNest RX11 72 yX1_init RX11) U ∧ va_Nw (.methodLinkNest RX11 79 yX0_init RX11) U ∧ va_Nw (.methodLinkNest RX0 13 yX3_init RX11) U ∧ va_AO RX4 U ∧ va_AO RX2 U ∧ va_AOA .int U

/-! TuneSearch$Part.<init>()V  -/
def hpc_X5_init (Z : ZT) (b : Nat) (j : Nat) (hp : Nat → va_E) : Nat → va_E := hp
abbrev rm_X5_init : Room := { frames := 1, cells := 0, slots := 0, locals := 12 }
set_option maxHeartbeats 8000000 in
set_option maxRecDepth 100000 in
theorem k_X5_init (l : Launch) (Z : ZT) (b : Nat) (j : Nat) (hp : Nat → va_E) (h0 : hp j = .inr (5, [.int 0, .long 0, .long 0])) : Met l yX5_init wsX5_init rm_X5_init (va_Pc [.ref (b + j)] (gx (zD Z) vwCl (tysX Z) FX b (j + 1) hp)) (gQ (zD Z) vwCl b (j + 1) (hpc_X5_init Z b j hp)) 0 0 (gA b) := by
  refine Met.ofW (cc := cX5_init) (maxL := 1) (ret := none) (by decide) rfl ?_
  intro p e s m args below meth c s₁ B hml hv
  obtain ⟨rfl, hF, hG, hK⟩ := hv
  have hx := B.exec
  have hb := B.bytes
  have hr := B.returns
  have hlocks := B.notSynchronized
  have hts := atoms_spec (ws := wsX5_init) B.pre
  have hown : s.vm.findClass RX5 = some m.cls := findClass_of_methodNamed B.named
  have hin : meth.name = "<init>" := (name_of_methodNamed B.named B.method).1
  have hS : va_S (gA b) s.heap s.heap [] := va_S.rf
  have hl := lv_entry ([.ref (b + j)]) (n := 1) (Nat.le_of_ble_eq_true rfl)
  rw [lg_entry_eq]
  generalize (lg_sl ([.ref (b + j)]) ++ List.replicate (1 - (lg_sl ([.ref (b + j)])).length) Slot.unset).toArray = ls at hl ⊢
  have hl : lv_has ls 1 [(0, .ref (b + j))] := hl
  refine lv_aload_n hx hb dX5_init_0 rfl (lv_at hl 0 rfl) ?_
  refine W.objInit hx hb hown (hts (.methodLink RX5 1 objectInit) (by decide +kernel)) (hts (.instanceMethod objectInit) (by decide +kernel)) (hts (.code objectInit ⟨#[0xb1]⟩ 1 none) (by decide +kernel)) rfl (by rw [hml]; exact hl.1) rfl dX5_init_1 (Nat.le_of_ble_eq_true rfl) (Nat.le_of_ble_eq_true rfl) ?_
  refine W.eq (g2 := F0 m 4 ls []) rfl ?_
  exact gz_ret hx hb hr hlocks hG hS dX5_init_4

/-! TuneSearch$NoteRow.<init>(I)V 24 -/
theorem in_X4_init_24_X4 : ∀ w ∈ wsX40, w ∈ wsX4_init := by decide +kernel
def hpc_X4_init_24 (Z : ZT) (b : Nat) (j : Nat) (hp : Nat → va_E) : Nat → va_E := va_up (va_up (va_up (va_up (hp) (j + 1) (.inl (zc Z 0, 24, .inl (fun _ => 0)))) j (.inr (4, [.ref (b + (j + 1)), .null, .int 0]))) (j + 2) (.inl (zc Z 0, 24, .inl (fun _ => 0)))) j (.inr (4, [.ref (b + (j + 1)), .ref (b + (j + 2)), .int 0]))
abbrev rm_X4_init_24 : Room := { frames := 1, cells := 2, slots := 48, locals := 12 }
set_option maxHeartbeats 8000000 in
set_option maxRecDepth 100000 in
theorem k_X4_init_24 (l : Launch) (Z : ZT) (b : Nat) (j : Nat) (hp : Nat → va_E) (h0 : hp j = .inr (4, [.null, .null, .int 0])) : Met l yX4_init wsX4_init rm_X4_init_24 (va_Pc [.ref (b + j), .int 24] (gx (zD Z) vwCl (tysX Z) FX b (j + 1) hp)) (gQ (zD Z) vwCl b (j + 3) (hpc_X4_init_24 Z b j hp)) 2 48 (gA b) := by
  refine Met.ofW (cc := cX4_init) (maxL := 2) (ret := none) (by decide) rfl ?_
  intro p e s m args below meth c s₁ B hml hv
  obtain ⟨rfl, hF, hG, hK⟩ := hv
  have hx := B.exec
  have hb := B.bytes
  have hr := B.returns
  have hlocks := B.notSynchronized
  have hts := atoms_spec (ws := wsX4_init) B.pre
  have hown : s.vm.findClass RX4 = some m.cls := findClass_of_methodNamed B.named
  have hin : meth.name = "<init>" := (name_of_methodNamed B.named B.method).1
  have hS : va_S (gA b) s.heap s.heap [] := va_S.rf
  have hl := lv_entry ([.ref (b + j), .int 24]) (n := 2) (Nat.le_of_ble_eq_true rfl)
  rw [lg_entry_eq]
  generalize (lg_sl ([.ref (b + j), .int 24]) ++ List.replicate (2 - (lg_sl ([.ref (b + j), .int 24])).length) Slot.unset).toArray = ls at hl ⊢
  have hl : lv_has ls 2 [(0, .ref (b + j)), (1, .int 24)] := hl
  refine lv_aload_n hx hb dX4_init_0 rfl (lv_at hl 0 rfl) ?_
  refine W.objInit hx hb hown (hts (.methodLink RX4 3 objectInit) (by decide +kernel)) (hts (.instanceMethod objectInit) (by decide +kernel)) (hts (.code objectInit ⟨#[0xb1]⟩ 1 none) (by decide +kernel)) rfl (by rw [hml]; exact hl.1) rfl dX4_init_1 (Nat.le_of_ble_eq_true rfl) (Nat.le_of_ble_eq_true rfl) ?_
  refine W.eq (g2 := F0 m 4 ls []) rfl ?_
  refine lv_aload_n hx hb dX4_init_4 rfl (lv_at hl 0 rfl) ?_
  refine lv_iload_n hx hb dX4_init_5 rfl (lv_at hl 1 rfl) ?_
  refine gz_newa (atype := .int) (a0 := ((24, .inl (fun _ => 0)) : vp_A)) (N := 24) hx hb (hts (.arrayClass .int) (by decide +kernel)) (ty := .int) rfl hK 0 rfl (fun h => h) hG hS (fun _ => rfl) (by decide) (by decide) (by decide) (Nat.le_of_ble_eq_true rfl) (Nat.le_of_ble_eq_true rfl) dX4_init_6 (fun H hG hS => ?_)
  refine gz_putF (ci := 4) (C := RX4) (T := TX4) (N := 3) (ty := .array .int) (fs := [.null, .null, .int 0]) hx hb hts in_X4_init_24_X4 tyX4 tyX4_ok nmX4 hown hK hG hS j (by omega) (by simp [va_up, h0] <;> omega) rfl 0 (by decide) (hts (.fieldLink RX4 9 "TuneSearch$NoteRow" "pitches" "[I") (by decide +kernel)) (fun _ h9 => h9) rfl hin rfl (by decide +kernel) rfl rfl (Nat.le_of_ble_eq_true rfl) dX4_init_8 (fun H locs hG hS => ?_)
  refine lv_aload_n hx hb dX4_init_11 rfl (lv_at hl 0 rfl) ?_
  refine lv_iload_n hx hb dX4_init_12 rfl (lv_at hl 1 rfl) ?_
  refine gz_newa (atype := .int) (a0 := ((24, .inl (fun _ => 0)) : vp_A)) (N := 24) hx hb (hts (.arrayClass .int) (by decide +kernel)) (ty := .int) rfl hK 0 rfl (fun h => h) hG hS (fun _ => rfl) (by decide) (by decide) (by decide) (Nat.le_of_ble_eq_true rfl) (Nat.le_of_ble_eq_true rfl) dX4_init_13 (fun H hG hS => ?_)
  refine gz_putF (ci := 4) (C := RX4) (T := TX4) (N := 3) (ty := .array .int) (fs := [.ref (b + (j + 1)), .null, .int 0]) hx hb hts in_X4_init_24_X4 tyX4 tyX4_ok nmX4 hown hK hG hS j (by omega) (by simp [va_up, h0] <;> omega) rfl 1 (by decide) (hts (.fieldLink RX4 15 "TuneSearch$NoteRow" "lengths" "[I") (by decide +kernel)) (fun _ h9 => h9) rfl hin rfl (by decide +kernel) rfl rfl (Nat.le_of_ble_eq_true rfl) dX4_init_15 (fun H locs hG hS => ?_)
  exact gz_ret hx hb hr hlocks hG hS dX4_init_18

/-! TuneSearch$NoteRow.<init>(I)V 12 -/
theorem in_X4_init_12_X4 : ∀ w ∈ wsX40, w ∈ wsX4_init := by decide +kernel
def hpc_X4_init_12 (Z : ZT) (b : Nat) (j : Nat) (hp : Nat → va_E) : Nat → va_E := va_up (va_up (va_up (va_up (hp) (j + 1) (.inl (zc Z 0, 12, .inl (fun _ => 0)))) j (.inr (4, [.ref (b + (j + 1)), .null, .int 0]))) (j + 2) (.inl (zc Z 0, 12, .inl (fun _ => 0)))) j (.inr (4, [.ref (b + (j + 1)), .ref (b + (j + 2)), .int 0]))
abbrev rm_X4_init_12 : Room := { frames := 1, cells := 2, slots := 24, locals := 12 }
set_option maxHeartbeats 8000000 in
set_option maxRecDepth 100000 in
theorem k_X4_init_12 (l : Launch) (Z : ZT) (b : Nat) (j : Nat) (hp : Nat → va_E) (h0 : hp j = .inr (4, [.null, .null, .int 0])) : Met l yX4_init wsX4_init rm_X4_init_12 (va_Pc [.ref (b + j), .int 12] (gx (zD Z) vwCl (tysX Z) FX b (j + 1) hp)) (gQ (zD Z) vwCl b (j + 3) (hpc_X4_init_12 Z b j hp)) 2 24 (gA b) := by
  refine Met.ofW (cc := cX4_init) (maxL := 2) (ret := none) (by decide) rfl ?_
  intro p e s m args below meth c s₁ B hml hv
  obtain ⟨rfl, hF, hG, hK⟩ := hv
  have hx := B.exec
  have hb := B.bytes
  have hr := B.returns
  have hlocks := B.notSynchronized
  have hts := atoms_spec (ws := wsX4_init) B.pre
  have hown : s.vm.findClass RX4 = some m.cls := findClass_of_methodNamed B.named
  have hin : meth.name = "<init>" := (name_of_methodNamed B.named B.method).1
  have hS : va_S (gA b) s.heap s.heap [] := va_S.rf
  have hl := lv_entry ([.ref (b + j), .int 12]) (n := 2) (Nat.le_of_ble_eq_true rfl)
  rw [lg_entry_eq]
  generalize (lg_sl ([.ref (b + j), .int 12]) ++ List.replicate (2 - (lg_sl ([.ref (b + j), .int 12])).length) Slot.unset).toArray = ls at hl ⊢
  have hl : lv_has ls 2 [(0, .ref (b + j)), (1, .int 12)] := hl
  refine lv_aload_n hx hb dX4_init_0 rfl (lv_at hl 0 rfl) ?_
  refine W.objInit hx hb hown (hts (.methodLink RX4 3 objectInit) (by decide +kernel)) (hts (.instanceMethod objectInit) (by decide +kernel)) (hts (.code objectInit ⟨#[0xb1]⟩ 1 none) (by decide +kernel)) rfl (by rw [hml]; exact hl.1) rfl dX4_init_1 (Nat.le_of_ble_eq_true rfl) (Nat.le_of_ble_eq_true rfl) ?_
  refine W.eq (g2 := F0 m 4 ls []) rfl ?_
  refine lv_aload_n hx hb dX4_init_4 rfl (lv_at hl 0 rfl) ?_
  refine lv_iload_n hx hb dX4_init_5 rfl (lv_at hl 1 rfl) ?_
  refine gz_newa (atype := .int) (a0 := ((12, .inl (fun _ => 0)) : vp_A)) (N := 12) hx hb (hts (.arrayClass .int) (by decide +kernel)) (ty := .int) rfl hK 0 rfl (fun h => h) hG hS (fun _ => rfl) (by decide) (by decide) (by decide) (Nat.le_of_ble_eq_true rfl) (Nat.le_of_ble_eq_true rfl) dX4_init_6 (fun H hG hS => ?_)
  refine gz_putF (ci := 4) (C := RX4) (T := TX4) (N := 3) (ty := .array .int) (fs := [.null, .null, .int 0]) hx hb hts in_X4_init_12_X4 tyX4 tyX4_ok nmX4 hown hK hG hS j (by omega) (by simp [va_up, h0] <;> omega) rfl 0 (by decide) (hts (.fieldLink RX4 9 "TuneSearch$NoteRow" "pitches" "[I") (by decide +kernel)) (fun _ h9 => h9) rfl hin rfl (by decide +kernel) rfl rfl (Nat.le_of_ble_eq_true rfl) dX4_init_8 (fun H locs hG hS => ?_)
  refine lv_aload_n hx hb dX4_init_11 rfl (lv_at hl 0 rfl) ?_
  refine lv_iload_n hx hb dX4_init_12 rfl (lv_at hl 1 rfl) ?_
  refine gz_newa (atype := .int) (a0 := ((12, .inl (fun _ => 0)) : vp_A)) (N := 12) hx hb (hts (.arrayClass .int) (by decide +kernel)) (ty := .int) rfl hK 0 rfl (fun h => h) hG hS (fun _ => rfl) (by decide) (by decide) (by decide) (Nat.le_of_ble_eq_true rfl) (Nat.le_of_ble_eq_true rfl) dX4_init_13 (fun H hG hS => ?_)
  refine gz_putF (ci := 4) (C := RX4) (T := TX4) (N := 3) (ty := .array .int) (fs := [.ref (b + (j + 1)), .null, .int 0]) hx hb hts in_X4_init_12_X4 tyX4 tyX4_ok nmX4 hown hK hG hS j (by omega) (by simp [va_up, h0] <;> omega) rfl 1 (by decide) (hts (.fieldLink RX4 15 "TuneSearch$NoteRow" "lengths" "[I") (by decide +kernel)) (fun _ h9 => h9) rfl hin rfl (by decide +kernel) rfl rfl (Nat.le_of_ble_eq_true rfl) dX4_init_15 (fun H locs hG hS => ?_)
  exact gz_ret hx hb hr hlocks hG hS dX4_init_18

/-! TuneSearch$Tape.<init>()V  -/
theorem in_X7_init_X7 : ∀ w ∈ wsX70, w ∈ wsX7_init := by decide +kernel
def hpc_X7_init (Z : ZT) (b : Nat) (hp : Nat → va_E) : Nat → va_E := va_up (va_up (hp) 31 (.inl (zc Z 0, 160, .inl (fun _ => 0)))) 30 (.inr (7, [.ref (b + 31), .int 0]))
abbrev rm_X7_init : Room := { frames := 1, cells := 1, slots := 160, locals := 12 }
set_option maxHeartbeats 8000000 in
set_option maxRecDepth 100000 in
theorem k_X7_init (l : Launch) (Z : ZT) (b : Nat) (hp : Nat → va_E) (h0 : hp 30 = .inr (7, [.null, .int 0])) : Met l yX7_init wsX7_init rm_X7_init (va_Pc [.ref (b + 30)] (gx (zD Z) vwCl (tysX Z) FX b 31 hp)) (gQ (zD Z) vwCl b 32 (hpc_X7_init Z b hp)) 1 160 (gA b) := by
  refine Met.ofW (cc := cX7_init) (maxL := 1) (ret := none) (by decide) rfl ?_
  intro p e s m args below meth c s₁ B hml hv
  obtain ⟨rfl, hF, hG, hK⟩ := hv
  have hx := B.exec
  have hb := B.bytes
  have hr := B.returns
  have hlocks := B.notSynchronized
  have hts := atoms_spec (ws := wsX7_init) B.pre
  have hown : s.vm.findClass RX7 = some m.cls := findClass_of_methodNamed B.named
  have hin : meth.name = "<init>" := (name_of_methodNamed B.named B.method).1
  have hS : va_S (gA b) s.heap s.heap [] := va_S.rf
  have hl := lv_entry ([.ref (b + 30)]) (n := 1) (Nat.le_of_ble_eq_true rfl)
  rw [lg_entry_eq]
  generalize (lg_sl ([.ref (b + 30)]) ++ List.replicate (1 - (lg_sl ([.ref (b + 30)])).length) Slot.unset).toArray = ls at hl ⊢
  have hl : lv_has ls 1 [(0, .ref (b + 30))] := hl
  refine lv_aload_n hx hb dX7_init_0 rfl (lv_at hl 0 rfl) ?_
  refine W.objInit hx hb hown (hts (.methodLink RX7 1 objectInit) (by decide +kernel)) (hts (.instanceMethod objectInit) (by decide +kernel)) (hts (.code objectInit ⟨#[0xb1]⟩ 1 none) (by decide +kernel)) rfl (by rw [hml]; exact hl.1) rfl dX7_init_1 (Nat.le_of_ble_eq_true rfl) (Nat.le_of_ble_eq_true rfl) ?_
  refine W.eq (g2 := F0 m 4 ls []) rfl ?_
  refine lv_aload_n hx hb dX7_init_4 rfl (lv_at hl 0 rfl) ?_
  refine lv_sipush (v := 160) hx hb dX7_init_5 (by decide) ?_
  refine gz_newa (atype := .int) (a0 := ((160, .inl (fun _ => 0)) : vp_A)) (N := 160) hx hb (hts (.arrayClass .int) (by decide +kernel)) (ty := .int) rfl hK 0 rfl (fun h => h) hG hS (fun _ => rfl) (by decide) (by decide) (by decide) (Nat.le_of_ble_eq_true rfl) (Nat.le_of_ble_eq_true rfl) dX7_init_8 (fun H hG hS => ?_)
  refine gz_putF (ci := 7) (C := RX7) (T := TX7) (N := 2) (ty := .array .int) (fs := [.null, .int 0]) hx hb hts in_X7_init_X7 tyX7 tyX7_ok nmX7 hown hK hG hS 30 (by decide) (by first | rfl | exact h0) rfl 0 (by decide) (hts (.fieldLink RX7 9 "TuneSearch$Tape" "bytes" "[I") (by decide +kernel)) (fun _ h9 => h9) rfl hin rfl (by decide +kernel) rfl rfl (Nat.le_of_ble_eq_true rfl) dX7_init_10 (fun H locs hG hS => ?_)
  exact gz_ret hx hb hr hlocks hG hS dX7_init_13

/-! TuneSearch$Level.<init>()V  -/
theorem in_X2_init_X2 : ∀ w ∈ wsX20, w ∈ wsX2_init := by decide +kernel
theorem in_X2_init_X5 : ∀ w ∈ wsX50, w ∈ wsX2_init := by decide +kernel
def hpc_X2_init (Z : ZT) (b : Nat) (j : Nat) (hp : Nat → va_E) : Nat → va_E := va_up (hpc_X5_init Z b (j + 3) (va_up (va_up (hpc_X5_init Z b (j + 2) (va_up (va_up (hpc_X5_init Z b (j + 1) (va_up (hp) (j + 1) (.inr (5, [.int 0, .long 0, .long 0])))) j (.inr (2, [.ref (b + (j + 1)), .null, .null, .int 0]))) (j + 2) (.inr (5, [.int 0, .long 0, .long 0])))) j (.inr (2, [.ref (b + (j + 1)), .ref (b + (j + 2)), .null, .int 0]))) (j + 3) (.inr (5, [.int 0, .long 0, .long 0])))) j (.inr (2, [.ref (b + (j + 1)), .ref (b + (j + 2)), .ref (b + (j + 3)), .int 0]))
abbrev rm_X2_init : Room := { frames := 2, cells := 3, slots := 9, locals := 32 }
set_option maxHeartbeats 8000000 in
set_option maxRecDepth 100000 in
theorem k_X2_init (l : Launch) (Z : ZT) (b : Nat) (j : Nat) (hp : Nat → va_E) (h0 : hp j = .inr (2, [.null, .null, .null, .int 0])) : Met l yX2_init wsX2_init rm_X2_init (va_Pc [.ref (b + j)] (gx (zD Z) vwCl (tysX Z) FX b (j + 1) hp)) (gQ (zD Z) vwCl b (j + 4) (hpc_X2_init Z b j hp)) 3 9 (gA b) := by
  refine Met.ofW (cc := cX2_init) (maxL := 1) (ret := none) (by decide) rfl ?_
  intro p e s m args below meth c s₁ B hml hv
  obtain ⟨rfl, hF, hG, hK⟩ := hv
  have hx := B.exec
  have hb := B.bytes
  have hr := B.returns
  have hlocks := B.notSynchronized
  have hts := atoms_spec (ws := wsX2_init) B.pre
  have hown : s.vm.findClass RX2 = some m.cls := findClass_of_methodNamed B.named
  have hin : meth.name = "<init>" := (name_of_methodNamed B.named B.method).1
  have hS : va_S (gA b) s.heap s.heap [] := va_S.rf
  have hl := lv_entry ([.ref (b + j)]) (n := 1) (Nat.le_of_ble_eq_true rfl)
  rw [lg_entry_eq]
  generalize (lg_sl ([.ref (b + j)]) ++ List.replicate (1 - (lg_sl ([.ref (b + j)])).length) Slot.unset).toArray = ls at hl ⊢
  have hl : lv_has ls 1 [(0, .ref (b + j))] := hl
  refine lv_aload_n hx hb dX2_init_0 rfl (lv_at hl 0 rfl) ?_
  refine W.objInit hx hb hown (hts (.methodLink RX2 1 objectInit) (by decide +kernel)) (hts (.instanceMethod objectInit) (by decide +kernel)) (hts (.code objectInit ⟨#[0xb1]⟩ 1 none) (by decide +kernel)) rfl (by rw [hml]; exact hl.1) rfl dX2_init_1 (Nat.le_of_ble_eq_true rfl) (Nat.le_of_ble_eq_true rfl) ?_
  refine W.eq (g2 := F0 m 4 ls []) rfl ?_
  refine lv_aload_n hx hb dX2_init_4 rfl (lv_at hl 0 rfl) ?_
  refine gz_new (C := RX5) (T := TX5) (N := 3) (ci := 5) (fs := [.int 0, .long 0, .long 0]) hx hb hts in_X2_init_X5 tyX5 tyX5_ok hown (hts (.classLink RX2 7 RX5) (by decide +kernel)) (hts (.instantiable RX5 3) (by decide +kernel)) (hts (.initialized RX5) (by decide +kernel)) hK hG hS rfl bl_X5 (Nat.le_of_ble_eq_true rfl) (Nat.le_of_ble_eq_true rfl) dX2_init_5 (fun H hG hS => ?_)
  refine lv_dup hx hb dX2_init_8 rfl ?_
  refine gz_call (va_runIN (As := []) (rest := [.ref (b + (j + 1)), .ref (b + j)]) ⟨hx, hb, hml, hown, hts⟩ (k_X5_init l Z b (j + 1) _ (by simp [va_up, h0, hpc_X5_init] <;> omega)) ⟨va_cnB 0 hts gX2_init_X5_init_n9 rfl rfl rfl hF.2.2.2.1 (hts (.initialized RX5) (by decide +kernel)) (by decide +kernel) ⟨Nat.le_of_ble_eq_true rfl, Nat.le_of_ble_eq_true rfl⟩, rfl, hts (.instanceMethod yX5_init) (by decide +kernel)⟩ ⟨gx_blind, fun U hU hW => ⟨rfl, gx_at hF hG hK hU hW⟩⟩ rfl rfl hl.1 rfl (lv_room (Nat.le_of_ble_eq_true rfl)) dX2_init_9 ⟨Nat.le_of_ble_eq_true rfl, Nat.le_of_ble_eq_true rfl⟩) hS (fun H locs hG hS => ?_)
  refine gz_putF (ci := 2) (C := RX2) (T := TX2) (N := 4) (ty := .object "TuneSearch$Part") (fs := [.null, .null, .null, .int 0]) hx hb hts in_X2_init_X2 tyX2 tyX2_ok nmX2 hown hK hG hS j (by omega) (by simp [va_up, h0, hpc_X5_init] <;> omega) rfl 0 (by decide) (hts (.fieldLink RX2 10 "TuneSearch$Level" "choices" "LTuneSearch$Part;") (by decide +kernel)) (fun _ h9 => h9) rfl hin rfl (by decide +kernel) rfl rfl (Nat.le_of_ble_eq_true rfl) dX2_init_12 (fun H locs hG hS => ?_)
  refine lv_aload_n hx hb dX2_init_15 rfl (lv_at hl 0 rfl) ?_
  refine gz_new (C := RX5) (T := TX5) (N := 3) (ci := 5) (fs := [.int 0, .long 0, .long 0]) hx hb hts in_X2_init_X5 tyX5 tyX5_ok hown (hts (.classLink RX2 7 RX5) (by decide +kernel)) (hts (.instantiable RX5 3) (by decide +kernel)) (hts (.initialized RX5) (by decide +kernel)) hK hG hS rfl bl_X5 (Nat.le_of_ble_eq_true rfl) (Nat.le_of_ble_eq_true rfl) dX2_init_16 (fun H hG hS => ?_)
  refine lv_dup hx hb dX2_init_19 rfl ?_
  refine gz_call (va_runIN (As := []) (rest := [.ref (b + (j + 2)), .ref (b + j)]) ⟨hx, hb, hml, hown, hts⟩ (k_X5_init l Z b (j + 2) _ (by simp [va_up, h0, hpc_X5_init] <;> omega)) ⟨va_cnB 0 hts gX2_init_X5_init_n9 rfl rfl rfl hF.2.2.2.1 (hts (.initialized RX5) (by decide +kernel)) (by decide +kernel) ⟨Nat.le_of_ble_eq_true rfl, Nat.le_of_ble_eq_true rfl⟩, rfl, hts (.instanceMethod yX5_init) (by decide +kernel)⟩ ⟨gx_blind, fun U hU hW => ⟨rfl, gx_at hF hG hK hU hW⟩⟩ rfl rfl hl.1 rfl (lv_room (Nat.le_of_ble_eq_true rfl)) dX2_init_20 ⟨Nat.le_of_ble_eq_true rfl, Nat.le_of_ble_eq_true rfl⟩) hS (fun H locs hG hS => ?_)
  refine gz_putF (ci := 2) (C := RX2) (T := TX2) (N := 4) (ty := .object "TuneSearch$Part") (fs := [.ref (b + (j + 1)), .null, .null, .int 0]) hx hb hts in_X2_init_X2 tyX2 tyX2_ok nmX2 hown hK hG hS j (by omega) (by simp [va_up, h0, hpc_X5_init] <;> omega) rfl 1 (by decide) (hts (.fieldLink RX2 16 "TuneSearch$Level" "seq" "LTuneSearch$Part;") (by decide +kernel)) (fun _ h9 => h9) rfl hin rfl (by decide +kernel) rfl rfl (Nat.le_of_ble_eq_true rfl) dX2_init_23 (fun H locs hG hS => ?_)
  refine lv_aload_n hx hb dX2_init_26 rfl (lv_at hl 0 rfl) ?_
  refine gz_new (C := RX5) (T := TX5) (N := 3) (ci := 5) (fs := [.int 0, .long 0, .long 0]) hx hb hts in_X2_init_X5 tyX5 tyX5_ok hown (hts (.classLink RX2 7 RX5) (by decide +kernel)) (hts (.instantiable RX5 3) (by decide +kernel)) (hts (.initialized RX5) (by decide +kernel)) hK hG hS rfl bl_X5 (Nat.le_of_ble_eq_true rfl) (Nat.le_of_ble_eq_true rfl) dX2_init_27 (fun H hG hS => ?_)
  refine lv_dup hx hb dX2_init_30 rfl ?_
  refine gz_call (va_runIN (As := []) (rest := [.ref (b + (j + 3)), .ref (b + j)]) ⟨hx, hb, hml, hown, hts⟩ (k_X5_init l Z b (j + 3) _ (by simp [va_up, h0, hpc_X5_init] <;> omega)) ⟨va_cnB 0 hts gX2_init_X5_init_n9 rfl rfl rfl hF.2.2.2.1 (hts (.initialized RX5) (by decide +kernel)) (by decide +kernel) ⟨Nat.le_of_ble_eq_true rfl, Nat.le_of_ble_eq_true rfl⟩, rfl, hts (.instanceMethod yX5_init) (by decide +kernel)⟩ ⟨gx_blind, fun U hU hW => ⟨rfl, gx_at hF hG hK hU hW⟩⟩ rfl rfl hl.1 rfl (lv_room (Nat.le_of_ble_eq_true rfl)) dX2_init_31 ⟨Nat.le_of_ble_eq_true rfl, Nat.le_of_ble_eq_true rfl⟩) hS (fun H locs hG hS => ?_)
  refine gz_putF (ci := 2) (C := RX2) (T := TX2) (N := 4) (ty := .object "TuneSearch$Part") (fs := [.ref (b + (j + 1)), .ref (b + (j + 2)), .null, .int 0]) hx hb hts in_X2_init_X2 tyX2 tyX2_ok nmX2 hown hK hG hS j (by omega) (by simp [va_up, h0, hpc_X5_init] <;> omega) rfl 2 (by decide) (hts (.fieldLink RX2 19 "TuneSearch$Level" "item" "LTuneSearch$Part;") (by decide +kernel)) (fun _ h9 => h9) rfl hin rfl (by decide +kernel) rfl rfl (Nat.le_of_ble_eq_true rfl) dX2_init_34 (fun H locs hG hS => ?_)
  exact gz_ret hx hb hr hlocks hG hS dX2_init_37

/-! TuneSearch$Word.<init>()V  -/
theorem in_X9_init_X9 : ∀ w ∈ wsX90, w ∈ wsX9_init := by decide +kernel
def hpc_X9_init (Z : ZT) (b : Nat) (j : Nat) (hp : Nat → va_E) : Nat → va_E := va_up (va_up (va_up (va_up (va_up (va_up (va_up (va_up (hp) (j + 1) (.inl (zc Z 0, 50, .inl (fun _ => 0)))) j (.inr (9, [.int 0, .long 0, .long 0, .ref (b + (j + 1)), .null, .null, .null, .int 0]))) (j + 2) (.inl (zc Z 0, 50, .inl (fun _ => 0)))) j (.inr (9, [.int 0, .long 0, .long 0, .ref (b + (j + 1)), .ref (b + (j + 2)), .null, .null, .int 0]))) (j + 3) (.inl (zc Z 1, 50, .inr (.inl (fun _ => 0))))) j (.inr (9, [.int 0, .long 0, .long 0, .ref (b + (j + 1)), .ref (b + (j + 2)), .ref (b + (j + 3)), .null, .int 0]))) (j + 4) (.inl (zc Z 1, 24, .inr (.inl (fun _ => 0))))) j (.inr (9, [.int 0, .long 0, .long 0, .ref (b + (j + 1)), .ref (b + (j + 2)), .ref (b + (j + 3)), .ref (b + (j + 4)), .int 0]))
abbrev rm_X9_init : Room := { frames := 1, cells := 4, slots := 174, locals := 12 }
set_option maxHeartbeats 8000000 in
set_option maxRecDepth 100000 in
theorem k_X9_init (l : Launch) (Z : ZT) (b : Nat) (j : Nat) (hp : Nat → va_E) (h0 : hp j = .inr (9, [.int 0, .long 0, .long 0, .null, .null, .null, .null, .int 0])) : Met l yX9_init wsX9_init rm_X9_init (va_Pc [.ref (b + j)] (gx (zD Z) vwCl (tysX Z) FX b (j + 1) hp)) (gQ (zD Z) vwCl b (j + 5) (hpc_X9_init Z b j hp)) 4 174 (gA b) := by
  refine Met.ofW (cc := cX9_init) (maxL := 1) (ret := none) (by decide) rfl ?_
  intro p e s m args below meth c s₁ B hml hv
  obtain ⟨rfl, hF, hG, hK⟩ := hv
  have hx := B.exec
  have hb := B.bytes
  have hr := B.returns
  have hlocks := B.notSynchronized
  have hts := atoms_spec (ws := wsX9_init) B.pre
  have hown : s.vm.findClass RX9 = some m.cls := findClass_of_methodNamed B.named
  have hin : meth.name = "<init>" := (name_of_methodNamed B.named B.method).1
  have hS : va_S (gA b) s.heap s.heap [] := va_S.rf
  have hl := lv_entry ([.ref (b + j)]) (n := 1) (Nat.le_of_ble_eq_true rfl)
  rw [lg_entry_eq]
  generalize (lg_sl ([.ref (b + j)]) ++ List.replicate (1 - (lg_sl ([.ref (b + j)])).length) Slot.unset).toArray = ls at hl ⊢
  have hl : lv_has ls 1 [(0, .ref (b + j))] := hl
  refine lv_aload_n hx hb dX9_init_0 rfl (lv_at hl 0 rfl) ?_
  refine W.objInit hx hb hown (hts (.methodLink RX9 3 objectInit) (by decide +kernel)) (hts (.instanceMethod objectInit) (by decide +kernel)) (hts (.code objectInit ⟨#[0xb1]⟩ 1 none) (by decide +kernel)) rfl (by rw [hml]; exact hl.1) rfl dX9_init_1 (Nat.le_of_ble_eq_true rfl) (Nat.le_of_ble_eq_true rfl) ?_
  refine W.eq (g2 := F0 m 4 ls []) rfl ?_
  refine lv_aload_n hx hb dX9_init_4 rfl (lv_at hl 0 rfl) ?_
  refine lv_bipush (v := 50) hx hb dX9_init_5 (by decide) ?_
  refine gz_newa (atype := .int) (a0 := ((50, .inl (fun _ => 0)) : vp_A)) (N := 50) hx hb (hts (.arrayClass .int) (by decide +kernel)) (ty := .int) rfl hK 0 rfl (fun h => h) hG hS (fun _ => rfl) (by decide) (by decide) (by decide) (Nat.le_of_ble_eq_true rfl) (Nat.le_of_ble_eq_true rfl) dX9_init_7 (fun H hG hS => ?_)
  refine gz_putF (ci := 9) (C := RX9) (T := TX9) (N := 8) (ty := .array .int) (fs := [.int 0, .long 0, .long 0, .null, .null, .null, .null, .int 0]) hx hb hts in_X9_init_X9 tyX9 tyX9_ok nmX9 hown hK hG hS j (by omega) (by simp [va_up, h0] <;> omega) rfl 3 (by decide) (hts (.fieldLink RX9 11 "TuneSearch$Word" "lows" "[I") (by decide +kernel)) (fun _ h9 => h9) rfl hin rfl (by decide +kernel) rfl rfl (Nat.le_of_ble_eq_true rfl) dX9_init_9 (fun H locs hG hS => ?_)
  refine lv_aload_n hx hb dX9_init_12 rfl (lv_at hl 0 rfl) ?_
  refine lv_bipush (v := 50) hx hb dX9_init_13 (by decide) ?_
  refine gz_newa (atype := .int) (a0 := ((50, .inl (fun _ => 0)) : vp_A)) (N := 50) hx hb (hts (.arrayClass .int) (by decide +kernel)) (ty := .int) rfl hK 0 rfl (fun h => h) hG hS (fun _ => rfl) (by decide) (by decide) (by decide) (Nat.le_of_ble_eq_true rfl) (Nat.le_of_ble_eq_true rfl) dX9_init_15 (fun H hG hS => ?_)
  refine gz_putF (ci := 9) (C := RX9) (T := TX9) (N := 8) (ty := .array .int) (fs := [.int 0, .long 0, .long 0, .ref (b + (j + 1)), .null, .null, .null, .int 0]) hx hb hts in_X9_init_X9 tyX9 tyX9_ok nmX9 hown hK hG hS j (by omega) (by simp [va_up, h0] <;> omega) rfl 4 (by decide) (hts (.fieldLink RX9 15 "TuneSearch$Word" "highs" "[I") (by decide +kernel)) (fun _ h9 => h9) rfl hin rfl (by decide +kernel) rfl rfl (Nat.le_of_ble_eq_true rfl) dX9_init_17 (fun H locs hG hS => ?_)
  refine lv_aload_n hx hb dX9_init_20 rfl (lv_at hl 0 rfl) ?_
  refine lv_bipush (v := 50) hx hb dX9_init_21 (by decide) ?_
  refine gz_newa (atype := .long) (a0 := ((50, .inr (.inl (fun _ => 0))) : vp_A)) (N := 50) hx hb (hts (.arrayClass .long) (by decide +kernel)) (ty := .long) rfl hK 1 rfl (fun h => h) hG hS (fun _ => rfl) (by decide) (by decide) (by decide) (Nat.le_of_ble_eq_true rfl) (Nat.le_of_ble_eq_true rfl) dX9_init_23 (fun H hG hS => ?_)
  refine gz_putF (ci := 9) (C := RX9) (T := TX9) (N := 8) (ty := .array .long) (fs := [.int 0, .long 0, .long 0, .ref (b + (j + 1)), .ref (b + (j + 2)), .null, .null, .int 0]) hx hb hts in_X9_init_X9 tyX9 tyX9_ok nmX9 hown hK hG hS j (by omega) (by simp [va_up, h0] <;> omega) rfl 5 (by decide) (hts (.fieldLink RX9 18 "TuneSearch$Word" "follow" "[J") (by decide +kernel)) (fun _ h9 => h9) rfl hin rfl (by decide +kernel) rfl rfl (Nat.le_of_ble_eq_true rfl) dX9_init_25 (fun H locs hG hS => ?_)
  refine lv_aload_n hx hb dX9_init_28 rfl (lv_at hl 0 rfl) ?_
  refine lv_bipush (v := 24) hx hb dX9_init_29 (by decide) ?_
  refine gz_newa (atype := .long) (a0 := ((24, .inr (.inl (fun _ => 0))) : vp_A)) (N := 24) hx hb (hts (.arrayClass .long) (by decide +kernel)) (ty := .long) rfl hK 1 rfl (fun h => h) hG hS (fun _ => rfl) (by decide) (by decide) (by decide) (Nat.le_of_ble_eq_true rfl) (Nat.le_of_ble_eq_true rfl) dX9_init_31 (fun H hG hS => ?_)
  refine gz_putF (ci := 9) (C := RX9) (T := TX9) (N := 8) (ty := .array .long) (fs := [.int 0, .long 0, .long 0, .ref (b + (j + 1)), .ref (b + (j + 2)), .ref (b + (j + 3)), .null, .int 0]) hx hb hts in_X9_init_X9 tyX9 tyX9_ok nmX9 hown hK hG hS j (by omega) (by simp [va_up, h0] <;> omega) rfl 6 (by decide) (hts (.fieldLink RX9 22 "TuneSearch$Word" "fitting" "[J") (by decide +kernel)) (fun _ h9 => h9) rfl hin rfl (by decide +kernel) rfl rfl (Nat.le_of_ble_eq_true rfl) dX9_init_33 (fun H locs hG hS => ?_)
  exact gz_ret hx hb hr hlocks hG hS dX9_init_36

/-! TuneSearch$Signs.<init>()V  -/
theorem in_X6_init_X6 : ∀ w ∈ wsX60, w ∈ wsX6_init := by decide +kernel
def hpc_X6_init (Z : ZT) (b : Nat) (hp : Nat → va_E) : Nat → va_E := va_up (va_up (hp) 81 (.inl (zc Z 0, 24, .inl (fun _ => 0)))) 80 (.inr (6, [.ref (b + 81), .int 0]))
abbrev rm_X6_init : Room := { frames := 1, cells := 1, slots := 24, locals := 12 }
set_option maxHeartbeats 8000000 in
set_option maxRecDepth 100000 in
theorem k_X6_init (l : Launch) (Z : ZT) (b : Nat) (hp : Nat → va_E) (h0 : hp 80 = .inr (6, [.null, .int 0])) : Met l yX6_init wsX6_init rm_X6_init (va_Pc [.ref (b + 80)] (gx (zD Z) vwCl (tysX Z) FX b 81 hp)) (gQ (zD Z) vwCl b 82 (hpc_X6_init Z b hp)) 1 24 (gA b) := by
  refine Met.ofW (cc := cX6_init) (maxL := 1) (ret := none) (by decide) rfl ?_
  intro p e s m args below meth c s₁ B hml hv
  obtain ⟨rfl, hF, hG, hK⟩ := hv
  have hx := B.exec
  have hb := B.bytes
  have hr := B.returns
  have hlocks := B.notSynchronized
  have hts := atoms_spec (ws := wsX6_init) B.pre
  have hown : s.vm.findClass RX6 = some m.cls := findClass_of_methodNamed B.named
  have hin : meth.name = "<init>" := (name_of_methodNamed B.named B.method).1
  have hS : va_S (gA b) s.heap s.heap [] := va_S.rf
  have hl := lv_entry ([.ref (b + 80)]) (n := 1) (Nat.le_of_ble_eq_true rfl)
  rw [lg_entry_eq]
  generalize (lg_sl ([.ref (b + 80)]) ++ List.replicate (1 - (lg_sl ([.ref (b + 80)])).length) Slot.unset).toArray = ls at hl ⊢
  have hl : lv_has ls 1 [(0, .ref (b + 80))] := hl
  refine lv_aload_n hx hb dX6_init_0 rfl (lv_at hl 0 rfl) ?_
  refine W.objInit hx hb hown (hts (.methodLink RX6 3 objectInit) (by decide +kernel)) (hts (.instanceMethod objectInit) (by decide +kernel)) (hts (.code objectInit ⟨#[0xb1]⟩ 1 none) (by decide +kernel)) rfl (by rw [hml]; exact hl.1) rfl dX6_init_1 (Nat.le_of_ble_eq_true rfl) (Nat.le_of_ble_eq_true rfl) ?_
  refine W.eq (g2 := F0 m 4 ls []) rfl ?_
  refine lv_aload_n hx hb dX6_init_4 rfl (lv_at hl 0 rfl) ?_
  refine lv_bipush (v := 24) hx hb dX6_init_5 (by decide) ?_
  refine gz_newa (atype := .int) (a0 := ((24, .inl (fun _ => 0)) : vp_A)) (N := 24) hx hb (hts (.arrayClass .int) (by decide +kernel)) (ty := .int) rfl hK 0 rfl (fun h => h) hG hS (fun _ => rfl) (by decide) (by decide) (by decide) (Nat.le_of_ble_eq_true rfl) (Nat.le_of_ble_eq_true rfl) dX6_init_7 (fun H hG hS => ?_)
  refine gz_putF (ci := 6) (C := RX6) (T := TX6) (N := 2) (ty := .array .int) (fs := [.null, .int 0]) hx hb hts in_X6_init_X6 tyX6 tyX6_ok nmX6 hown hK hG hS 80 (by decide) (by first | rfl | exact h0) rfl 0 (by decide) (hts (.fieldLink RX6 9 "TuneSearch$Signs" "row" "[I") (by decide +kernel)) (fun _ h9 => h9) rfl hin rfl (by decide +kernel) rfl rfl (Nat.le_of_ble_eq_true rfl) dX6_init_9 (fun H locs hG hS => ?_)
  exact gz_ret hx hb hr hlocks hG hS dX6_init_12

/-! TuneSearch$Load.<init>()V  -/
theorem in_X3_init_X3 : ∀ w ∈ wsX30, w ∈ wsX3_init := by decide +kernel
def hpc_X3_init (Z : ZT) (b : Nat) (j : Nat) (hp : Nat → va_E) : Nat → va_E := va_up (va_up (va_up (va_up (va_up (va_up (hp) (j + 1) (.inl (zc Z 0, 24, .inl (fun _ => 0)))) j (.inr (3, [.ref (b + (j + 1)), .null, .null, .int 0, .int 0]))) (j + 2) (.inl (zc Z 0, 24, .inl (fun _ => 0)))) j (.inr (3, [.ref (b + (j + 1)), .ref (b + (j + 2)), .null, .int 0, .int 0]))) (j + 3) (.inl (zc Z 0, 24, .inl (fun _ => 0)))) j (.inr (3, [.ref (b + (j + 1)), .ref (b + (j + 2)), .ref (b + (j + 3)), .int 0, .int 0]))
abbrev rm_X3_init : Room := { frames := 1, cells := 3, slots := 72, locals := 12 }
set_option maxHeartbeats 8000000 in
set_option maxRecDepth 100000 in
theorem k_X3_init (l : Launch) (Z : ZT) (b : Nat) (j : Nat) (hp : Nat → va_E) (h0 : hp j = .inr (3, [.null, .null, .null, .int 0, .int 0])) : Met l yX3_init wsX3_init rm_X3_init (va_Pc [.ref (b + j)] (gx (zD Z) vwCl (tysX Z) FX b (j + 1) hp)) (gQ (zD Z) vwCl b (j + 4) (hpc_X3_init Z b j hp)) 3 72 (gA b) := by
  refine Met.ofW (cc := cX3_init) (maxL := 1) (ret := none) (by decide) rfl ?_
  intro p e s m args below meth c s₁ B hml hv
  obtain ⟨rfl, hF, hG, hK⟩ := hv
  have hx := B.exec
  have hb := B.bytes
  have hr := B.returns
  have hlocks := B.notSynchronized
  have hts := atoms_spec (ws := wsX3_init) B.pre
  have hown : s.vm.findClass RX3 = some m.cls := findClass_of_methodNamed B.named
  have hin : meth.name = "<init>" := (name_of_methodNamed B.named B.method).1
  have hS : va_S (gA b) s.heap s.heap [] := va_S.rf
  have hl := lv_entry ([.ref (b + j)]) (n := 1) (Nat.le_of_ble_eq_true rfl)
  rw [lg_entry_eq]
  generalize (lg_sl ([.ref (b + j)]) ++ List.replicate (1 - (lg_sl ([.ref (b + j)])).length) Slot.unset).toArray = ls at hl ⊢
  have hl : lv_has ls 1 [(0, .ref (b + j))] := hl
  refine lv_aload_n hx hb dX3_init_0 rfl (lv_at hl 0 rfl) ?_
  refine W.objInit hx hb hown (hts (.methodLink RX3 3 objectInit) (by decide +kernel)) (hts (.instanceMethod objectInit) (by decide +kernel)) (hts (.code objectInit ⟨#[0xb1]⟩ 1 none) (by decide +kernel)) rfl (by rw [hml]; exact hl.1) rfl dX3_init_1 (Nat.le_of_ble_eq_true rfl) (Nat.le_of_ble_eq_true rfl) ?_
  refine W.eq (g2 := F0 m 4 ls []) rfl ?_
  refine lv_aload_n hx hb dX3_init_4 rfl (lv_at hl 0 rfl) ?_
  refine lv_bipush (v := 24) hx hb dX3_init_5 (by decide) ?_
  refine gz_newa (atype := .int) (a0 := ((24, .inl (fun _ => 0)) : vp_A)) (N := 24) hx hb (hts (.arrayClass .int) (by decide +kernel)) (ty := .int) rfl hK 0 rfl (fun h => h) hG hS (fun _ => rfl) (by decide) (by decide) (by decide) (Nat.le_of_ble_eq_true rfl) (Nat.le_of_ble_eq_true rfl) dX3_init_7 (fun H hG hS => ?_)
  refine gz_putF (ci := 3) (C := RX3) (T := TX3) (N := 5) (ty := .array .int) (fs := [.null, .null, .null, .int 0, .int 0]) hx hb hts in_X3_init_X3 tyX3 tyX3_ok nmX3 hown hK hG hS j (by omega) (by simp [va_up, h0] <;> omega) rfl 0 (by decide) (hts (.fieldLink RX3 9 "TuneSearch$Load" "pitches" "[I") (by decide +kernel)) (fun _ h9 => h9) rfl hin rfl (by decide +kernel) rfl rfl (Nat.le_of_ble_eq_true rfl) dX3_init_9 (fun H locs hG hS => ?_)
  refine lv_aload_n hx hb dX3_init_12 rfl (lv_at hl 0 rfl) ?_
  refine lv_bipush (v := 24) hx hb dX3_init_13 (by decide) ?_
  refine gz_newa (atype := .int) (a0 := ((24, .inl (fun _ => 0)) : vp_A)) (N := 24) hx hb (hts (.arrayClass .int) (by decide +kernel)) (ty := .int) rfl hK 0 rfl (fun h => h) hG hS (fun _ => rfl) (by decide) (by decide) (by decide) (Nat.le_of_ble_eq_true rfl) (Nat.le_of_ble_eq_true rfl) dX3_init_15 (fun H hG hS => ?_)
  refine gz_putF (ci := 3) (C := RX3) (T := TX3) (N := 5) (ty := .array .int) (fs := [.ref (b + (j + 1)), .null, .null, .int 0, .int 0]) hx hb hts in_X3_init_X3 tyX3 tyX3_ok nmX3 hown hK hG hS j (by omega) (by simp [va_up, h0] <;> omega) rfl 1 (by decide) (hts (.fieldLink RX3 15 "TuneSearch$Load" "begins" "[I") (by decide +kernel)) (fun _ h9 => h9) rfl hin rfl (by decide +kernel) rfl rfl (Nat.le_of_ble_eq_true rfl) dX3_init_17 (fun H locs hG hS => ?_)
  refine lv_aload_n hx hb dX3_init_20 rfl (lv_at hl 0 rfl) ?_
  refine lv_bipush (v := 24) hx hb dX3_init_21 (by decide) ?_
  refine gz_newa (atype := .int) (a0 := ((24, .inl (fun _ => 0)) : vp_A)) (N := 24) hx hb (hts (.arrayClass .int) (by decide +kernel)) (ty := .int) rfl hK 0 rfl (fun h => h) hG hS (fun _ => rfl) (by decide) (by decide) (by decide) (Nat.le_of_ble_eq_true rfl) (Nat.le_of_ble_eq_true rfl) dX3_init_23 (fun H hG hS => ?_)
  refine gz_putF (ci := 3) (C := RX3) (T := TX3) (N := 5) (ty := .array .int) (fs := [.ref (b + (j + 1)), .ref (b + (j + 2)), .null, .int 0, .int 0]) hx hb hts in_X3_init_X3 tyX3 tyX3_ok nmX3 hown hK hG hS j (by omega) (by simp [va_up, h0] <;> omega) rfl 2 (by decide) (hts (.fieldLink RX3 18 "TuneSearch$Load" "left" "[I") (by decide +kernel)) (fun _ h9 => h9) rfl hin rfl (by decide +kernel) rfl rfl (Nat.le_of_ble_eq_true rfl) dX3_init_25 (fun H locs hG hS => ?_)
  exact gz_ret hx hb hr hlocks hG hS dX3_init_28
