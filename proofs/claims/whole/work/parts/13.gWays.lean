/-! TuneSearch$Ways.begin([II)V -/
abbrev rm_X8_begin : Room := { frames := 1, cells := 0, slots := 0, locals := 21 }
theorem in_X8_begin_X8 : ∀ w ∈ wsX80, w ∈ wsX8_begin := by decide +kernel
def m_X8_begin_0    (σ : SG) (p1 : Int32) : Option (Unit × SG) :=
  gB (inB 0 8) (lS (sI σ 206 4 ((σ.1 18 (0 : Int32).toNatClampNeg) * 32)) (fun σ2 => gB (inB 4 8) (lS (sI σ2 206 5 ((σ2.1 18 (4 : Int32).toNatClampNeg) * 32)) (fun σ5 => gB (inB 1 8) (lS (sI σ5 206 6 ((σ5.1 18 (1 : Int32).toNatClampNeg) * 32)) (fun σ8 => gB (inB 2 8) (lS (sI σ8 206 7 ((σ8.1 18 (2 : Int32).toNatClampNeg) * 32)) (fun σ11 => gB (inB 3 8) (lS (sI σ11 206 8 ((σ11.1 18 (3 : Int32).toNatClampNeg) * 32)) (fun σ14 => lS (if 3072001 < p1 then 3072001 else p1) (fun v16 => lS (sI σ14 206 9 (((v16 * 32) + 32) - 1)) (fun σ18 => some ((), σ18)))))))))))))
set_option maxHeartbeats 4000000 in
set_option maxRecDepth 100000 in
theorem kb_X8_begin_0 {p : Program} {l : Launch} {e : Env} {s : State} {m : MethodId} {args : Array Value} {below : List Frame} {meth : Method} {c : Code} {E : EF} (Z : ZT)    (C : cy p s m args meth c cX8_begin none 3 RX8 wsX8_begin E (zD Z) vwCl 211 (za Z) (tysX Z)) {res : Unit × SG}   : ∀ (σ : SG) (p1 : Int32) , m_X8_begin_0    σ p1 = some res → ∀ (H : Heap) (locs : List Loc), ws_P (zD Z) vwCl 211 (za Z) (tX Z) σ H → va_S (ws_A 211 (za Z)) s.heap H locs → ∀ (ls : Array Slot), lv_has ls 3 [(0, .ref (za Z 206)), (1, .ref (za Z 18)), (2, .int p1)] → W p l e rm_X8_begin s m args below meth c H locs 0 0 (MQ below (xQv E (zD Z) vwCl 211 (za Z) (tX Z) (tysX Z) res) args s 0 0 (ws_A 211 (za Z))) (F0 m 0 ls []) := by
  have C0 := C
  obtain ⟨hx, hb, hr, hlocks, hml, hown, hts, hE, hJ, hK⟩ := C0
  intro σ p1  h H locs hP hS ls hl
  unfold m_X8_begin_0 at h
  refine lv_aload_n hx hb dX8_begin_0 rfl (lv_at hl 0 rfl) ?_
  refine lv_aload_n hx hb dX8_begin_1 rfl (lv_at hl 1 rfl) ?_
  refine lv_iconst (v := 0) hx hb dX8_begin_2 (by decide) ?_
  obtain ⟨b1, h⟩ := gB_e h
  refine wr_iald hx hb hK hP (k := 18) (by decide) 0 ((tX_I Z 18 (by decide)) _ _ _) rfl b1 dX8_begin_3 ?_
  refine lv_bipush (v := 32) hx hb dX8_begin_4 (by decide) ?_
  refine lv_imul hx hb dX8_begin_6 ?_
  refine wr_put (C := RX8) (T := TX8) (N := 10) (σ' := sI σ 206 4 ((σ.1 18 (0 : Int32).toNatClampNeg) * 32)) (ty := .int) hx hb hts (in_X8_begin_X8) tyX8 tyX8_ok nmX8 hown hK hP hJ hS (k := 206) (by decide) ((tX_Ways Z) _ _ _) rfl 4 (by decide) (hts (.fieldLink RX8 65 "TuneSearch$Ways" "pitchPrice" "I") (by decide +kernel)) (fun _ h9 => h9) rfl (by decide +kernel) rfl rfl (Nat.le_of_ble_eq_true rfl) (ws_pI (tX_Ways Z) rfl) dX8_begin_7 (fun H locs hP hS => ?_)
  obtain ⟨σ2, e3, h⟩ := lS_e h
  rw [← e3] at hP
  refine lv_aload_n hx hb dX8_begin_10 rfl (lv_at hl 0 rfl) ?_
  refine lv_aload_n hx hb dX8_begin_11 rfl (lv_at hl 1 rfl) ?_
  refine lv_iconst (v := 4) hx hb dX8_begin_12 (by decide) ?_
  obtain ⟨b4, h⟩ := gB_e h
  refine wr_iald hx hb hK hP (k := 18) (by decide) 0 ((tX_I Z 18 (by decide)) _ _ _) rfl b4 dX8_begin_13 ?_
  refine lv_bipush (v := 32) hx hb dX8_begin_14 (by decide) ?_
  refine lv_imul hx hb dX8_begin_16 ?_
  refine wr_put (C := RX8) (T := TX8) (N := 10) (σ' := sI σ2 206 5 ((σ2.1 18 (4 : Int32).toNatClampNeg) * 32)) (ty := .int) hx hb hts (in_X8_begin_X8) tyX8 tyX8_ok nmX8 hown hK hP hJ hS (k := 206) (by decide) ((tX_Ways Z) _ _ _) rfl 5 (by decide) (hts (.fieldLink RX8 68 "TuneSearch$Ways" "restPrice" "I") (by decide +kernel)) (fun _ h9 => h9) rfl (by decide +kernel) rfl rfl (Nat.le_of_ble_eq_true rfl) (ws_pI (tX_Ways Z) rfl) dX8_begin_17 (fun H locs hP hS => ?_)
  obtain ⟨σ5, e6, h⟩ := lS_e h
  rw [← e6] at hP
  refine lv_aload_n hx hb dX8_begin_20 rfl (lv_at hl 0 rfl) ?_
  refine lv_aload_n hx hb dX8_begin_21 rfl (lv_at hl 1 rfl) ?_
  refine lv_iconst (v := 1) hx hb dX8_begin_22 (by decide) ?_
  obtain ⟨b7, h⟩ := gB_e h
  refine wr_iald hx hb hK hP (k := 18) (by decide) 0 ((tX_I Z 18 (by decide)) _ _ _) rfl b7 dX8_begin_23 ?_
  refine lv_bipush (v := 32) hx hb dX8_begin_24 (by decide) ?_
  refine lv_imul hx hb dX8_begin_26 ?_
  refine wr_put (C := RX8) (T := TX8) (N := 10) (σ' := sI σ5 206 6 ((σ5.1 18 (1 : Int32).toNatClampNeg) * 32)) (ty := .int) hx hb hts (in_X8_begin_X8) tyX8 tyX8_ok nmX8 hown hK hP hJ hS (k := 206) (by decide) ((tX_Ways Z) _ _ _) rfl 6 (by decide) (hts (.fieldLink RX8 71 "TuneSearch$Ways" "lengthPrice" "I") (by decide +kernel)) (fun _ h9 => h9) rfl (by decide +kernel) rfl rfl (Nat.le_of_ble_eq_true rfl) (ws_pI (tX_Ways Z) rfl) dX8_begin_27 (fun H locs hP hS => ?_)
  obtain ⟨σ8, e9, h⟩ := lS_e h
  rw [← e9] at hP
  refine lv_aload_n hx hb dX8_begin_30 rfl (lv_at hl 0 rfl) ?_
  refine lv_aload_n hx hb dX8_begin_31 rfl (lv_at hl 1 rfl) ?_
  refine lv_iconst (v := 2) hx hb dX8_begin_32 (by decide) ?_
  obtain ⟨b10, h⟩ := gB_e h
  refine wr_iald hx hb hK hP (k := 18) (by decide) 0 ((tX_I Z 18 (by decide)) _ _ _) rfl b10 dX8_begin_33 ?_
  refine lv_bipush (v := 32) hx hb dX8_begin_34 (by decide) ?_
  refine lv_imul hx hb dX8_begin_36 ?_
  refine wr_put (C := RX8) (T := TX8) (N := 10) (σ' := sI σ8 206 7 ((σ8.1 18 (2 : Int32).toNatClampNeg) * 32)) (ty := .int) hx hb hts (in_X8_begin_X8) tyX8 tyX8_ok nmX8 hown hK hP hJ hS (k := 206) (by decide) ((tX_Ways Z) _ _ _) rfl 7 (by decide) (hts (.fieldLink RX8 74 "TuneSearch$Ways" "firstAlone" "I") (by decide +kernel)) (fun _ h9 => h9) rfl (by decide +kernel) rfl rfl (Nat.le_of_ble_eq_true rfl) (ws_pI (tX_Ways Z) rfl) dX8_begin_37 (fun H locs hP hS => ?_)
  obtain ⟨σ11, e12, h⟩ := lS_e h
  rw [← e12] at hP
  refine lv_aload_n hx hb dX8_begin_40 rfl (lv_at hl 0 rfl) ?_
  refine lv_aload_n hx hb dX8_begin_41 rfl (lv_at hl 1 rfl) ?_
  refine lv_iconst (v := 3) hx hb dX8_begin_42 (by decide) ?_
  obtain ⟨b13, h⟩ := gB_e h
  refine wr_iald hx hb hK hP (k := 18) (by decide) 0 ((tX_I Z 18 (by decide)) _ _ _) rfl b13 dX8_begin_43 ?_
  refine lv_bipush (v := 32) hx hb dX8_begin_44 (by decide) ?_
  refine lv_imul hx hb dX8_begin_46 ?_
  refine wr_put (C := RX8) (T := TX8) (N := 10) (σ' := sI σ11 206 8 ((σ11.1 18 (3 : Int32).toNatClampNeg) * 32)) (ty := .int) hx hb hts (in_X8_begin_X8) tyX8 tyX8_ok nmX8 hown hK hP hJ hS (k := 206) (by decide) ((tX_Ways Z) _ _ _) rfl 8 (by decide) (hts (.fieldLink RX8 77 "TuneSearch$Ways" "secondAlone" "I") (by decide +kernel)) (fun _ h9 => h9) rfl (by decide +kernel) rfl rfl (Nat.le_of_ble_eq_true rfl) (ws_pI (tX_Ways Z) rfl) dX8_begin_47 (fun H locs hP hS => ?_)
  obtain ⟨σ14, e15, h⟩ := lS_e h
  rw [← e15] at hP
  refine lv_aload_n hx hb dX8_begin_50 rfl (lv_at hl 0 rfl) ?_
  refine lv_iload_n hx hb dX8_begin_51 rfl (lv_at hl 2 rfl) ?_
  refine lv_ldc (v := 3072001) hx hb hown (hts (.constant RX8 80 3072001) (by decide +kernel)) dX8_begin_52 ?_
  refine va_mmin hx hb (by rw [hml]; exact hl.1.symm) hown (hts (.methodLink RX8 50 Lib.Math.min.name) (by decide +kernel)) (hts (.static Lib.Math.min.name) (by decide +kernel)) (hts (.initialized "java/lang/Math") (by decide +kernel)) (hts (.code Lib.Math.min.name Lib.Math.min.code 2 (some .int)) (by decide +kernel)) (Nat.le_of_ble_eq_true rfl) (Nat.le_of_ble_eq_true rfl) (Nat.le_of_ble_eq_true rfl) (Nat.le_of_ble_eq_true rfl) dX8_begin_54 ?_
  refine lv_topi (fun v16 e17 => ?_)
  have h := lS_u h e17
  refine lv_bipush (v := 32) hx hb dX8_begin_57 (by decide) ?_
  refine lv_imul hx hb dX8_begin_59 ?_
  refine lv_bipush (v := 32) hx hb dX8_begin_60 (by decide) ?_
  refine lv_iadd hx hb dX8_begin_62 ?_
  refine lv_iconst (v := 1) hx hb dX8_begin_63 (by decide) ?_
  refine lv_isub hx hb dX8_begin_64 ?_
  refine wr_put (C := RX8) (T := TX8) (N := 10) (σ' := sI σ14 206 9 (((v16 * 32) + 32) - 1)) (ty := .int) hx hb hts (in_X8_begin_X8) tyX8 tyX8_ok nmX8 hown hK hP hJ hS (k := 206) (by decide) ((tX_Ways Z) _ _ _) rfl 9 (by decide) (hts (.fieldLink RX8 81 "TuneSearch$Ways" "limit" "I") (by decide +kernel)) (fun _ h9 => h9) rfl (by decide +kernel) rfl rfl (Nat.le_of_ble_eq_true rfl) (ws_pI (tX_Ways Z) rfl) dX8_begin_65 (fun H locs hP hS => ?_)
  obtain ⟨σ18, e19, h⟩ := lS_e h
  rw [← e19] at hP
  exact xr_vret hx hb hr hlocks hE hJ hK hP hS h dX8_begin_68
def m_X8_begin   (σ : SG) (p1 : Int32) : Option (Unit × SG) := m_X8_begin_0   σ p1
set_option maxHeartbeats 4000000 in
set_option maxRecDepth 100000 in
theorem k_X8_begin (l : Launch) {E : EF} (Z : ZT)    (σ : SG) (p1 : Int32) {res : Unit × SG} (h : m_X8_begin   σ p1 = some res) : Met l yX8_begin wsX8_begin rm_X8_begin (va_Pc [.ref (za Z 206), .ref (za Z 18), .int p1] (wx E (zD Z) vwCl 211 (za Z) (tX Z) (tysX Z) σ)) (xQv E (zD Z) vwCl 211 (za Z) (tX Z) (tysX Z) res) 0 0 (ws_A 211 (za Z)) := by
  refine Met.ofW (cc := cX8_begin) (maxL := 3) (ret := none) (by decide) rfl ?_
  intro p e s m args below meth c s₁ B hml hv
  obtain ⟨rfl, hE, hJ, hP, hK⟩ := hv
  have hl := lv_entry ([.ref (za Z 206), .ref (za Z 18), .int p1]) (n := 3) (Nat.le_of_ble_eq_true rfl)
  rw [lg_entry_eq]
  generalize (lg_sl ([.ref (za Z 206), .ref (za Z 18), .int p1]) ++ List.replicate (3 - (lg_sl ([.ref (za Z 206), .ref (za Z 18), .int p1])).length) Slot.unset).toArray = ls at hl ⊢
  exact kb_X8_begin_0 Z    ⟨B.exec, B.bytes, B.returns, B.notSynchronized, hml, findClass_of_methodNamed B.named, atoms_spec (ws := wsX8_begin) B.pre, hE, hJ, hK⟩ σ p1 h s.heap [] hP va_S.rf ls hl
/-! TuneSearch$Ways.clearCells(LTuneSearch$NoteRow;LTuneSearch$NoteRow;)V -/
abbrev rm_X8_clearCells : Room := { frames := 0, cells := 0, slots := 0, locals := 0 }
theorem in_X8_clearCells_X4 : ∀ w ∈ wsX40, w ∈ wsX8_clearCells := by decide +kernel
theorem in_X8_clearCells_X8 : ∀ w ∈ wsX80, w ∈ wsX8_clearCells := by decide +kernel
def m_X8_clearCells_13_s  (r0 : Nat) (r1 : Nat) (c2 : SG → Int32 → Option (Unit × SG)) (c13 : SG → Int32 → Int32 → Option (Unit × SG)) (σ : SG) (l3 : Int32) (l4 : Int32) : Option (Unit × SG) :=
  if (σ.1 (156 + r1) 2) < l4 then (lS (l3 + 1) (fun v3 => c2 σ v3)) else (gB (inB l3 25) (gB (inB l4 25) (lS (sI σ (41 + l3.toNatClampNeg) l4.toNatClampNeg 2147483647) (fun σ8 => lS (l4 + 1) (fun v10 => c13 σ8 l3 v10)))))
def m_X8_clearCells_13  (r0 : Nat) (r1 : Nat) (c2 : SG → Int32 → Option (Unit × SG)) : Nat → SG → Int32 → Int32 → Option (Unit × SG)
  | 0, _, _, _ => none
  | n + 1, σ, l3, l4 => m_X8_clearCells_13_s  r0 r1 c2 (m_X8_clearCells_13  r0 r1 c2 n) σ l3 l4
set_option maxHeartbeats 4000000 in
set_option maxRecDepth 100000 in
theorem kb_X8_clearCells_13 {p : Program} {l : Launch} {e : Env} {s : State} {m : MethodId} {args : Array Value} {below : List Frame} {meth : Method} {c : Code} {E : EF} (Z : ZT)  (r0 : Nat) (r1 : Nat) (hr0 : r0 < 9) (hr1 : r1 < 9) (C : cy p s m args meth c cX8_clearCells none 5 RX8 wsX8_clearCells E (zD Z) vwCl 211 (za Z) (tysX Z)) {res : Unit × SG} {c2 : SG → Int32 → Option (Unit × SG)} (hc2 : ∀ (σ : SG) (l3 : Int32) , c2 σ l3 = some res → ∀ (H : Heap) (locs : List Loc), ws_P (zD Z) vwCl 211 (za Z) (tX Z) σ H → va_S (ws_A 211 (za Z)) s.heap H locs → ∀ (ls : Array Slot), lv_has ls 5 [(0, .ref (za Z 206)), (1, .ref (za Z (156 + r0))), (2, .ref (za Z (156 + r1))), (3, .int l3)] → W p l e rm_X8_clearCells s m args below meth c H locs 0 0 (MQ below (xQv E (zD Z) vwCl 211 (za Z) (tX Z) (tysX Z) res) args s 0 0 (ws_A 211 (za Z))) (F0 m 2 ls [])) : ∀ (n : Nat) (σ : SG) (l3 : Int32) (l4 : Int32) , m_X8_clearCells_13  r0 r1 c2 n σ l3 l4 = some res → ∀ (H : Heap) (locs : List Loc), ws_P (zD Z) vwCl 211 (za Z) (tX Z) σ H → va_S (ws_A 211 (za Z)) s.heap H locs → ∀ (ls : Array Slot), lv_has ls 5 [(0, .ref (za Z 206)), (1, .ref (za Z (156 + r0))), (2, .ref (za Z (156 + r1))), (3, .int l3), (4, .int l4)] → W p l e rm_X8_clearCells s m args below meth c H locs 0 0 (MQ below (xQv E (zD Z) vwCl 211 (za Z) (tX Z) (tysX Z) res) args s 0 0 (ws_A 211 (za Z))) (F0 m 13 ls []) := by
  have C0 := C
  obtain ⟨hx, hb, hr, hlocks, hml, hown, hts, hE, hJ, hK⟩ := C0
  intro n
  induction n with
  | zero =>
    intro σ l3 l4  h
    cases h
  | succ n ih =>
    intro σ l3 l4  h H locs hP hS ls hl
    have hc13 : ∀ (σ : SG) (l3 : Int32) (l4 : Int32) , m_X8_clearCells_13  r0 r1 c2 n σ l3 l4 = some res → ∀ (H : Heap) (locs : List Loc), ws_P (zD Z) vwCl 211 (za Z) (tX Z) σ H → va_S (ws_A 211 (za Z)) s.heap H locs → ∀ (ls : Array Slot), lv_has ls 5 [(0, .ref (za Z 206)), (1, .ref (za Z (156 + r0))), (2, .ref (za Z (156 + r1))), (3, .int l3), (4, .int l4)] → W p l e rm_X8_clearCells s m args below meth c H locs 0 0 (MQ below (xQv E (zD Z) vwCl 211 (za Z) (tX Z) (tysX Z) res) args s 0 0 (ws_A 211 (za Z))) (F0 m 13 ls []) := ih
    have h : m_X8_clearCells_13_s  r0 r1 c2 (m_X8_clearCells_13  r0 r1 c2 n) σ l3 l4 = some res := h
    unfold m_X8_clearCells_13_s at h
    refine lv_iload hx hb dX8_clearCells_13 (lv_at hl 4 rfl) ?_
    refine lv_aload_n hx hb dX8_clearCells_15 rfl (lv_at hl 2 rfl) ?_
    refine wr_get (C := RX4) (T := TX4) (N := 3) hx hb hts (in_X8_clearCells_X4) hown hK hP (k := (156 + r1)) (by omega) ((tX_NoteRow Z r1 hr1) _ _ _) rfl 2 (by decide) (hts (.fieldLink RX8 40 "TuneSearch$NoteRow" "count" "I") (by decide +kernel)) (fun _ h9 => h9) rfl dX8_clearCells_16 ?_
    refine lv_icmp_gt (tgt := 39) hx hb dX8_clearCells_19 (by decide) (fun q2 => ?_) (fun q2 => ?_)
    · have h := if_p h q2
      obtain ⟨v3, e4, h⟩ := lS_e h
      refine lv_iinc (v := v3) (lv' := [(3, .int v3), (0, .ref (za Z 206)), (1, .ref (za Z (156 + r0))), (2, .ref (za Z (156 + r1))), (4, .int l4)]) hx hb dX8_clearCells_39 hl (k := 3) rfl (by rw [e4]; rfl) (by decide) rfl (fun ls hl => ?_)
      refine lv_goto (tgt := 2) hx hb dX8_clearCells_42 (by decide) ?_
      exact hc2 σ v3 h H locs hP hS ls (lv_sub hl [1, 2, 3, 0] rfl)
    · have h := if_n h q2
      refine lv_aload_n hx hb dX8_clearCells_22 rfl (lv_at hl 0 rfl) ?_
      refine wr_get (C := RX8) (T := TX8) (N := 10) hx hb hts (in_X8_clearCells_X8) hown hK hP (k := 206) (by decide) ((tX_Ways Z) _ _ _) rfl 0 (by decide) (hts (.fieldLink RX8 13 "TuneSearch$Ways" "cells" "[[I") (by decide +kernel)) (fun _ h9 => h9) rfl dX8_clearCells_23 ?_
      refine lv_iload_n hx hb dX8_clearCells_26 rfl (lv_at hl 3 rfl) ?_
      obtain ⟨b5, h⟩ := gB_e h
      have hi6 := inB_lt b5
      refine wr_aald hx hb hK hP (k := 150) (by decide) 5 rfl ((tX_cellsO Z) _ _ _) rfl b5 (row_at hi6) dX8_clearCells_27 ?_
      refine lv_iload hx hb dX8_clearCells_28 (lv_at hl 4 rfl) ?_
      refine lv_ldc (v := 2147483647) hx hb hown (hts (.constant RX8 56 2147483647) (by decide +kernel)) dX8_clearCells_30 ?_
      obtain ⟨b7, h⟩ := gB_e h
      refine wr_iast hx hb hK hP hJ hS (k := (41 + l3.toNatClampNeg)) (by omega) 0 (tX_cells Z l3.toNatClampNeg hi6) rfl b7 dX8_clearCells_32 (fun H locs hP hS => ?_)
      obtain ⟨σ8, e9, h⟩ := lS_e h
      rw [← e9] at hP
      obtain ⟨v10, e11, h⟩ := lS_e h
      refine lv_iinc (v := v10) (lv' := [(4, .int v10), (0, .ref (za Z 206)), (1, .ref (za Z (156 + r0))), (2, .ref (za Z (156 + r1))), (3, .int l3)]) hx hb dX8_clearCells_33 hl (k := 4) rfl (by rw [e11]; rfl) (by decide) rfl (fun ls hl => ?_)
      refine lv_goto (tgt := 13) hx hb dX8_clearCells_36 (by decide) ?_
      exact hc13 σ8 l3 v10 h H locs hP hS ls (lv_sub hl [1, 2, 3, 4, 0] rfl)
def m_X8_clearCells_2_s  (r0 : Nat) (r1 : Nat)  (c2 : SG → Int32 → Option (Unit × SG)) (σ : SG) (l3 : Int32) : Option (Unit × SG) :=
  if (σ.1 (156 + r0) 2) < l3 then (some ((), σ)) else (m_X8_clearCells_13  r0 r1 c2 FV σ l3 0)
def m_X8_clearCells_2  (r0 : Nat) (r1 : Nat)  : Nat → SG → Int32 → Option (Unit × SG)
  | 0, _, _ => none
  | n + 1, σ, l3 => m_X8_clearCells_2_s  r0 r1  (m_X8_clearCells_2  r0 r1  n) σ l3
set_option maxHeartbeats 4000000 in
set_option maxRecDepth 100000 in
theorem kb_X8_clearCells_2 {p : Program} {l : Launch} {e : Env} {s : State} {m : MethodId} {args : Array Value} {below : List Frame} {meth : Method} {c : Code} {E : EF} (Z : ZT)  (r0 : Nat) (r1 : Nat) (hr0 : r0 < 9) (hr1 : r1 < 9) (C : cy p s m args meth c cX8_clearCells none 5 RX8 wsX8_clearCells E (zD Z) vwCl 211 (za Z) (tysX Z)) {res : Unit × SG}   : ∀ (n : Nat) (σ : SG) (l3 : Int32) , m_X8_clearCells_2  r0 r1  n σ l3 = some res → ∀ (H : Heap) (locs : List Loc), ws_P (zD Z) vwCl 211 (za Z) (tX Z) σ H → va_S (ws_A 211 (za Z)) s.heap H locs → ∀ (ls : Array Slot), lv_has ls 5 [(0, .ref (za Z 206)), (1, .ref (za Z (156 + r0))), (2, .ref (za Z (156 + r1))), (3, .int l3)] → W p l e rm_X8_clearCells s m args below meth c H locs 0 0 (MQ below (xQv E (zD Z) vwCl 211 (za Z) (tX Z) (tysX Z) res) args s 0 0 (ws_A 211 (za Z))) (F0 m 2 ls []) := by
  have C0 := C
  obtain ⟨hx, hb, hr, hlocks, hml, hown, hts, hE, hJ, hK⟩ := C0
  intro n
  induction n with
  | zero =>
    intro σ l3  h
    cases h
  | succ n ih =>
    intro σ l3  h H locs hP hS ls hl
    have hc2 : ∀ (σ : SG) (l3 : Int32) , m_X8_clearCells_2  r0 r1  n σ l3 = some res → ∀ (H : Heap) (locs : List Loc), ws_P (zD Z) vwCl 211 (za Z) (tX Z) σ H → va_S (ws_A 211 (za Z)) s.heap H locs → ∀ (ls : Array Slot), lv_has ls 5 [(0, .ref (za Z 206)), (1, .ref (za Z (156 + r0))), (2, .ref (za Z (156 + r1))), (3, .int l3)] → W p l e rm_X8_clearCells s m args below meth c H locs 0 0 (MQ below (xQv E (zD Z) vwCl 211 (za Z) (tX Z) (tysX Z) res) args s 0 0 (ws_A 211 (za Z))) (F0 m 2 ls []) := ih
    have h : m_X8_clearCells_2_s  r0 r1  (m_X8_clearCells_2  r0 r1  n) σ l3 = some res := h
    unfold m_X8_clearCells_2_s at h
    refine lv_iload_n hx hb dX8_clearCells_2 rfl (lv_at hl 3 rfl) ?_
    refine lv_aload_n hx hb dX8_clearCells_3 rfl (lv_at hl 1 rfl) ?_
    refine wr_get (C := RX4) (T := TX4) (N := 3) hx hb hts (in_X8_clearCells_X4) hown hK hP (k := (156 + r0)) (by omega) ((tX_NoteRow Z r0 hr0) _ _ _) rfl 2 (by decide) (hts (.fieldLink RX8 40 "TuneSearch$NoteRow" "count" "I") (by decide +kernel)) (fun _ h9 => h9) rfl dX8_clearCells_4 ?_
    refine lv_icmp_gt (tgt := 45) hx hb dX8_clearCells_7 (by decide) (fun q1 => ?_) (fun q1 => ?_)
    · have h := if_p h q1
      exact xr_vret hx hb hr hlocks hE hJ hK hP hS h dX8_clearCells_45
    · have h := if_n h q1
      refine lv_iconst (v := 0) hx hb dX8_clearCells_10 (by decide) ?_
      refine lv_istore (lv' := [(4, .int 0), (0, .ref (za Z 206)), (1, .ref (za Z (156 + r0))), (2, .ref (za Z (156 + r1))), (3, .int l3)]) hx hb dX8_clearCells_11 hl (by decide) rfl (fun ls hl => ?_)
      exact kb_X8_clearCells_13 Z  r0 r1 hr0 hr1 C  hc2 FV σ l3 0 h H locs hP hS ls (lv_sub hl [1, 2, 3, 4, 0] rfl)
def m_X8_clearCells_0  (r0 : Nat) (r1 : Nat)  (σ : SG)  : Option (Unit × SG) :=
  m_X8_clearCells_2  r0 r1  FV σ 0
set_option maxHeartbeats 4000000 in
set_option maxRecDepth 100000 in
theorem kb_X8_clearCells_0 {p : Program} {l : Launch} {e : Env} {s : State} {m : MethodId} {args : Array Value} {below : List Frame} {meth : Method} {c : Code} {E : EF} (Z : ZT)  (r0 : Nat) (r1 : Nat) (hr0 : r0 < 9) (hr1 : r1 < 9) (C : cy p s m args meth c cX8_clearCells none 5 RX8 wsX8_clearCells E (zD Z) vwCl 211 (za Z) (tysX Z)) {res : Unit × SG}   : ∀ (σ : SG)  , m_X8_clearCells_0  r0 r1  σ  = some res → ∀ (H : Heap) (locs : List Loc), ws_P (zD Z) vwCl 211 (za Z) (tX Z) σ H → va_S (ws_A 211 (za Z)) s.heap H locs → ∀ (ls : Array Slot), lv_has ls 5 [(0, .ref (za Z 206)), (1, .ref (za Z (156 + r0))), (2, .ref (za Z (156 + r1)))] → W p l e rm_X8_clearCells s m args below meth c H locs 0 0 (MQ below (xQv E (zD Z) vwCl 211 (za Z) (tX Z) (tysX Z) res) args s 0 0 (ws_A 211 (za Z))) (F0 m 0 ls []) := by
  have C0 := C
  obtain ⟨hx, hb, hr, hlocks, hml, hown, hts, hE, hJ, hK⟩ := C0
  intro σ   h H locs hP hS ls hl
  unfold m_X8_clearCells_0 at h
  refine lv_iconst (v := 0) hx hb dX8_clearCells_0 (by decide) ?_
  refine lv_istore_n (lv' := [(3, .int 0), (0, .ref (za Z 206)), (1, .ref (za Z (156 + r0))), (2, .ref (za Z (156 + r1)))]) hx hb dX8_clearCells_1 rfl hl (by decide) rfl (fun ls hl => ?_)
  exact kb_X8_clearCells_2 Z  r0 r1 hr0 hr1 C   FV σ 0 h H locs hP hS ls (lv_sub hl [1, 2, 3, 0] rfl)
def m_X8_clearCells  (r0 : Nat) (r1 : Nat) (σ : SG)  : Option (Unit × SG) := m_X8_clearCells_0  r0 r1 σ 
set_option maxHeartbeats 4000000 in
set_option maxRecDepth 100000 in
theorem k_X8_clearCells (l : Launch) {E : EF} (Z : ZT)  (r0 : Nat) (r1 : Nat) (hr0 : r0 < 9) (hr1 : r1 < 9) (σ : SG)  {res : Unit × SG} (h : m_X8_clearCells  r0 r1 σ  = some res) : Met l yX8_clearCells wsX8_clearCells rm_X8_clearCells (va_Pc [.ref (za Z 206), .ref (za Z (156 + r0)), .ref (za Z (156 + r1))] (wx E (zD Z) vwCl 211 (za Z) (tX Z) (tysX Z) σ)) (xQv E (zD Z) vwCl 211 (za Z) (tX Z) (tysX Z) res) 0 0 (ws_A 211 (za Z)) := by
  refine Met.ofW (cc := cX8_clearCells) (maxL := 5) (ret := none) (by decide) rfl ?_
  intro p e s m args below meth c s₁ B hml hv
  obtain ⟨rfl, hE, hJ, hP, hK⟩ := hv
  have hl := lv_entry ([.ref (za Z 206), .ref (za Z (156 + r0)), .ref (za Z (156 + r1))]) (n := 5) (Nat.le_of_ble_eq_true rfl)
  rw [lg_entry_eq]
  generalize (lg_sl ([.ref (za Z 206), .ref (za Z (156 + r0)), .ref (za Z (156 + r1))]) ++ List.replicate (5 - (lg_sl ([.ref (za Z 206), .ref (za Z (156 + r0)), .ref (za Z (156 + r1))])).length) Slot.unset).toArray = ls at hl ⊢
  exact kb_X8_clearCells_0 Z  r0 r1 hr0 hr1 ⟨B.exec, B.bytes, B.returns, B.notSynchronized, hml, findClass_of_methodNamed B.named, atoms_spec (ws := wsX8_clearCells) B.pre, hE, hJ, hK⟩ σ  h s.heap [] hP va_S.rf ls hl
/-! TuneSearch$Ways.pairCost(III)I -/
abbrev rm_X8_pairCost : Room := { frames := 1, cells := 0, slots := 0, locals := 21 }
theorem in_X8_pairCost_X8 : ∀ w ∈ wsX80, w ∈ wsX8_pairCost := by decide +kernel
def m_X8_pairCost_12    (σ : SG) (l1 : Int32) (l2 : Int32) (l3 : Int32) : Option (Int32 × SG) :=
  if l1 = (-1) then (some (σ.1 206 5, σ)) else (if ¬ l2 = (-1) then (lS (if 0 ≤ ((l1 + l3) - l2) then ((l1 + l3) - l2) else 0 - ((l1 + l3) - l2)) (fun v5 => some ((σ.1 206 4) * v5, σ))) else (some (σ.1 206 5, σ)))
set_option maxHeartbeats 4000000 in
set_option maxRecDepth 100000 in
theorem kb_X8_pairCost_12 {p : Program} {l : Launch} {e : Env} {s : State} {m : MethodId} {args : Array Value} {below : List Frame} {meth : Method} {c : Code} {E : EF} (Z : ZT)    (C : cy p s m args meth c cX8_pairCost (some .int) 4 RX8 wsX8_pairCost E (zD Z) vwCl 211 (za Z) (tysX Z)) {res : Int32 × SG}   : ∀ (σ : SG) (l1 : Int32) (l2 : Int32) (l3 : Int32) , m_X8_pairCost_12    σ l1 l2 l3 = some res → ∀ (H : Heap) (locs : List Loc), ws_P (zD Z) vwCl 211 (za Z) (tX Z) σ H → va_S (ws_A 211 (za Z)) s.heap H locs → ∀ (ls : Array Slot), lv_has ls 4 [(0, .ref (za Z 206)), (1, .int l1), (2, .int l2), (3, .int l3)] → W p l e rm_X8_pairCost s m args below meth c H locs 0 0 (MQ below (xQi E (zD Z) vwCl 211 (za Z) (tX Z) (tysX Z) res) args s 0 0 (ws_A 211 (za Z))) (F0 m 12 ls []) := by
  have C0 := C
  obtain ⟨hx, hb, hr, hlocks, hml, hown, hts, hE, hJ, hK⟩ := C0
  intro σ l1 l2 l3  h H locs hP hS ls hl
  unfold m_X8_pairCost_12 at h
  refine lv_iload_n hx hb dX8_pairCost_12 rfl (lv_at hl 1 rfl) ?_
  refine lv_iconst (v := (-1)) hx hb dX8_pairCost_13 (by decide) ?_
  refine lv_icmp_eq (tgt := 22) hx hb dX8_pairCost_14 (by decide) (fun q3 => ?_) (fun q3 => ?_)
  · have h := if_p h q3
    refine lv_aload_n hx hb dX8_pairCost_22 rfl (lv_at hl 0 rfl) ?_
    refine wr_get (C := RX8) (T := TX8) (N := 10) hx hb hts (in_X8_pairCost_X8) hown hK hP (k := 206) (by decide) ((tX_Ways Z) _ _ _) rfl 5 (by decide) (hts (.fieldLink RX8 68 "TuneSearch$Ways" "restPrice" "I") (by decide +kernel)) (fun _ h9 => h9) rfl dX8_pairCost_23 ?_
    exact xr_iret hx hb hr hlocks hE hJ hK hP hS h dX8_pairCost_26
  · have h := if_n h q3
    refine lv_iload_n hx hb dX8_pairCost_17 rfl (lv_at hl 2 rfl) ?_
    refine lv_iconst (v := (-1)) hx hb dX8_pairCost_18 (by decide) ?_
    refine lv_icmp_ne (tgt := 27) hx hb dX8_pairCost_19 (by decide) (fun q4 => ?_) (fun q4 => ?_)
    · have h := if_p h q4
      refine lv_aload_n hx hb dX8_pairCost_27 rfl (lv_at hl 0 rfl) ?_
      refine wr_get (C := RX8) (T := TX8) (N := 10) hx hb hts (in_X8_pairCost_X8) hown hK hP (k := 206) (by decide) ((tX_Ways Z) _ _ _) rfl 4 (by decide) (hts (.fieldLink RX8 65 "TuneSearch$Ways" "pitchPrice" "I") (by decide +kernel)) (fun _ h9 => h9) rfl dX8_pairCost_28 ?_
      refine lv_iload_n hx hb dX8_pairCost_31 rfl (lv_at hl 1 rfl) ?_
      refine lv_iload_n hx hb dX8_pairCost_32 rfl (lv_at hl 3 rfl) ?_
      refine lv_iadd hx hb dX8_pairCost_33 ?_
      refine lv_iload_n hx hb dX8_pairCost_34 rfl (lv_at hl 2 rfl) ?_
      refine lv_isub hx hb dX8_pairCost_35 ?_
      refine va_mabs hx hb (by rw [hml]; exact hl.1.symm) hown (hts (.methodLink RX8 95 Lib.Math.abs.name) (by decide +kernel)) (hts (.static Lib.Math.abs.name) (by decide +kernel)) (hts (.initialized "java/lang/Math") (by decide +kernel)) (hts (.code Lib.Math.abs.name Lib.Math.abs.code 1 (some .int)) (by decide +kernel)) (Nat.le_of_ble_eq_true rfl) (Nat.le_of_ble_eq_true rfl) (Nat.le_of_ble_eq_true rfl) (Nat.le_of_ble_eq_true rfl) dX8_pairCost_36 ?_
      refine lv_topi (fun v5 e6 => ?_)
      have h := lS_u h e6
      refine lv_imul hx hb dX8_pairCost_39 ?_
      exact xr_iret hx hb hr hlocks hE hJ hK hP hS h dX8_pairCost_40
    · have h := if_n h (fun z => z q4)
      refine lv_aload_n hx hb dX8_pairCost_22 rfl (lv_at hl 0 rfl) ?_
      refine wr_get (C := RX8) (T := TX8) (N := 10) hx hb hts (in_X8_pairCost_X8) hown hK hP (k := 206) (by decide) ((tX_Ways Z) _ _ _) rfl 5 (by decide) (hts (.fieldLink RX8 68 "TuneSearch$Ways" "restPrice" "I") (by decide +kernel)) (fun _ h9 => h9) rfl dX8_pairCost_23 ?_
      exact xr_iret hx hb hr hlocks hE hJ hK hP hS h dX8_pairCost_26
def m_X8_pairCost_0    (σ : SG) (p0 : Int32) (p1 : Int32) (p2 : Int32) : Option (Int32 × SG) :=
  if ¬ p0 = (-1) then (m_X8_pairCost_12    σ p0 p1 p2) else (if ¬ p1 = (-1) then (m_X8_pairCost_12    σ p0 p1 p2) else (some (0, σ)))
set_option maxHeartbeats 4000000 in
set_option maxRecDepth 100000 in
theorem kb_X8_pairCost_0 {p : Program} {l : Launch} {e : Env} {s : State} {m : MethodId} {args : Array Value} {below : List Frame} {meth : Method} {c : Code} {E : EF} (Z : ZT)    (C : cy p s m args meth c cX8_pairCost (some .int) 4 RX8 wsX8_pairCost E (zD Z) vwCl 211 (za Z) (tysX Z)) {res : Int32 × SG}   : ∀ (σ : SG) (p0 : Int32) (p1 : Int32) (p2 : Int32) , m_X8_pairCost_0    σ p0 p1 p2 = some res → ∀ (H : Heap) (locs : List Loc), ws_P (zD Z) vwCl 211 (za Z) (tX Z) σ H → va_S (ws_A 211 (za Z)) s.heap H locs → ∀ (ls : Array Slot), lv_has ls 4 [(0, .ref (za Z 206)), (1, .int p0), (2, .int p1), (3, .int p2)] → W p l e rm_X8_pairCost s m args below meth c H locs 0 0 (MQ below (xQi E (zD Z) vwCl 211 (za Z) (tX Z) (tysX Z) res) args s 0 0 (ws_A 211 (za Z))) (F0 m 0 ls []) := by
  have C0 := C
  obtain ⟨hx, hb, hr, hlocks, hml, hown, hts, hE, hJ, hK⟩ := C0
  intro σ p0 p1 p2  h H locs hP hS ls hl
  unfold m_X8_pairCost_0 at h
  refine lv_iload_n hx hb dX8_pairCost_0 rfl (lv_at hl 1 rfl) ?_
  refine lv_iconst (v := (-1)) hx hb dX8_pairCost_1 (by decide) ?_
  refine lv_icmp_ne (tgt := 12) hx hb dX8_pairCost_2 (by decide) (fun q1 => ?_) (fun q1 => ?_)
  · have h := if_p h q1
    exact kb_X8_pairCost_12 Z    C   σ p0 p1 p2 h H locs hP hS ls (lv_sub hl [0, 1, 2, 3] rfl)
  · have h := if_n h (fun z => z q1)
    refine lv_iload_n hx hb dX8_pairCost_5 rfl (lv_at hl 2 rfl) ?_
    refine lv_iconst (v := (-1)) hx hb dX8_pairCost_6 (by decide) ?_
    refine lv_icmp_ne (tgt := 12) hx hb dX8_pairCost_7 (by decide) (fun q2 => ?_) (fun q2 => ?_)
    · have h := if_p h q2
      exact kb_X8_pairCost_12 Z    C   σ p0 p1 p2 h H locs hP hS ls (lv_sub hl [0, 1, 2, 3] rfl)
    · have h := if_n h (fun z => z q2)
      refine lv_iconst (v := 0) hx hb dX8_pairCost_10 (by decide) ?_
      exact xr_iret hx hb hr hlocks hE hJ hK hP hS h dX8_pairCost_11
def m_X8_pairCost   (σ : SG) (p0 : Int32) (p1 : Int32) (p2 : Int32) : Option (Int32 × SG) := m_X8_pairCost_0   σ p0 p1 p2
set_option maxHeartbeats 4000000 in
set_option maxRecDepth 100000 in
theorem k_X8_pairCost (l : Launch) {E : EF} (Z : ZT)    (σ : SG) (p0 : Int32) (p1 : Int32) (p2 : Int32) {res : Int32 × SG} (h : m_X8_pairCost   σ p0 p1 p2 = some res) : Met l yX8_pairCost wsX8_pairCost rm_X8_pairCost (va_Pc [.ref (za Z 206), .int p0, .int p1, .int p2] (wx E (zD Z) vwCl 211 (za Z) (tX Z) (tysX Z) σ)) (xQi E (zD Z) vwCl 211 (za Z) (tX Z) (tysX Z) res) 0 0 (ws_A 211 (za Z)) := by
  refine Met.ofW (cc := cX8_pairCost) (maxL := 4) (ret := (some .int)) (by decide) rfl ?_
  intro p e s m args below meth c s₁ B hml hv
  obtain ⟨rfl, hE, hJ, hP, hK⟩ := hv
  have hl := lv_entry ([.ref (za Z 206), .int p0, .int p1, .int p2]) (n := 4) (Nat.le_of_ble_eq_true rfl)
  rw [lg_entry_eq]
  generalize (lg_sl ([.ref (za Z 206), .int p0, .int p1, .int p2]) ++ List.replicate (4 - (lg_sl ([.ref (za Z 206), .int p0, .int p1, .int p2])).length) Slot.unset).toArray = ls at hl ⊢
  exact kb_X8_pairCost_0 Z    ⟨B.exec, B.bytes, B.returns, B.notSynchronized, hml, findClass_of_methodNamed B.named, atoms_spec (ws := wsX8_pairCost) B.pre, hE, hJ, hK⟩ σ p0 p1 p2 h s.heap [] hP va_S.rf ls hl
/-! TuneSearch$Ways.offer(III)V -/
abbrev rm_X8_offer : Room := { frames := 0, cells := 0, slots := 0, locals := 0 }
theorem in_X8_offer_X8 : ∀ w ∈ wsX80, w ∈ wsX8_offer := by decide +kernel
def m_X8_offer_0    (σ : SG) (p0 : Int32) (p1 : Int32) (p2 : Int32) : Option (Unit × SG) :=
  gB (inB p0 25) (gB (inB p1 25) (if (σ.1 (41 + p0.toNatClampNeg) p1.toNatClampNeg) ≤ p2 then (some ((), σ)) else (gB (inB p0 25) (gB (inB p1 25) (lS (sI σ (41 + p0.toNatClampNeg) p1.toNatClampNeg p2) (fun σ8 => some ((), σ8)))))))
set_option maxHeartbeats 4000000 in
set_option maxRecDepth 100000 in
theorem kb_X8_offer_0 {p : Program} {l : Launch} {e : Env} {s : State} {m : MethodId} {args : Array Value} {below : List Frame} {meth : Method} {c : Code} {E : EF} (Z : ZT)    (C : cy p s m args meth c cX8_offer none 4 RX8 wsX8_offer E (zD Z) vwCl 211 (za Z) (tysX Z)) {res : Unit × SG}   : ∀ (σ : SG) (p0 : Int32) (p1 : Int32) (p2 : Int32) , m_X8_offer_0    σ p0 p1 p2 = some res → ∀ (H : Heap) (locs : List Loc), ws_P (zD Z) vwCl 211 (za Z) (tX Z) σ H → va_S (ws_A 211 (za Z)) s.heap H locs → ∀ (ls : Array Slot), lv_has ls 4 [(0, .ref (za Z 206)), (1, .int p0), (2, .int p1), (3, .int p2)] → W p l e rm_X8_offer s m args below meth c H locs 0 0 (MQ below (xQv E (zD Z) vwCl 211 (za Z) (tX Z) (tysX Z) res) args s 0 0 (ws_A 211 (za Z))) (F0 m 0 ls []) := by
  have C0 := C
  obtain ⟨hx, hb, hr, hlocks, hml, hown, hts, hE, hJ, hK⟩ := C0
  intro σ p0 p1 p2  h H locs hP hS ls hl
  unfold m_X8_offer_0 at h
  refine lv_iload_n hx hb dX8_offer_0 rfl (lv_at hl 3 rfl) ?_
  refine lv_aload_n hx hb dX8_offer_1 rfl (lv_at hl 0 rfl) ?_
  refine wr_get (C := RX8) (T := TX8) (N := 10) hx hb hts (in_X8_offer_X8) hown hK hP (k := 206) (by decide) ((tX_Ways Z) _ _ _) rfl 0 (by decide) (hts (.fieldLink RX8 13 "TuneSearch$Ways" "cells" "[[I") (by decide +kernel)) (fun _ h9 => h9) rfl dX8_offer_2 ?_
  refine lv_iload_n hx hb dX8_offer_5 rfl (lv_at hl 1 rfl) ?_
  obtain ⟨b1, h⟩ := gB_e h
  have hi2 := inB_lt b1
  refine wr_aald hx hb hK hP (k := 150) (by decide) 5 rfl ((tX_cellsO Z) _ _ _) rfl b1 (row_at hi2) dX8_offer_6 ?_
  refine lv_iload_n hx hb dX8_offer_7 rfl (lv_at hl 2 rfl) ?_
  obtain ⟨b3, h⟩ := gB_e h
  refine wr_iald hx hb hK hP (k := (41 + p0.toNatClampNeg)) (by omega) 0 ((tX_cells Z p0.toNatClampNeg hi2) _ _ _) rfl b3 dX8_offer_8 ?_
  refine lv_icmp_ge (tgt := 21) hx hb dX8_offer_9 (by decide) (fun q4 => ?_) (fun q4 => ?_)
  · have h := if_p h q4
    exact xr_vret hx hb hr hlocks hE hJ hK hP hS h dX8_offer_21
  · have h := if_n h q4
    refine lv_aload_n hx hb dX8_offer_12 rfl (lv_at hl 0 rfl) ?_
    refine wr_get (C := RX8) (T := TX8) (N := 10) hx hb hts (in_X8_offer_X8) hown hK hP (k := 206) (by decide) ((tX_Ways Z) _ _ _) rfl 0 (by decide) (hts (.fieldLink RX8 13 "TuneSearch$Ways" "cells" "[[I") (by decide +kernel)) (fun _ h9 => h9) rfl dX8_offer_13 ?_
    refine lv_iload_n hx hb dX8_offer_16 rfl (lv_at hl 1 rfl) ?_
    obtain ⟨b5, h⟩ := gB_e h
    have hi6 := inB_lt b5
    refine wr_aald hx hb hK hP (k := 150) (by decide) 5 rfl ((tX_cellsO Z) _ _ _) rfl b5 (row_at hi6) dX8_offer_17 ?_
    refine lv_iload_n hx hb dX8_offer_18 rfl (lv_at hl 2 rfl) ?_
    refine lv_iload_n hx hb dX8_offer_19 rfl (lv_at hl 3 rfl) ?_
    obtain ⟨b7, h⟩ := gB_e h
    refine wr_iast hx hb hK hP hJ hS (k := (41 + p0.toNatClampNeg)) (by omega) 0 (tX_cells Z p0.toNatClampNeg hi6) rfl b7 dX8_offer_20 (fun H locs hP hS => ?_)
    obtain ⟨σ8, e9, h⟩ := lS_e h
    rw [← e9] at hP
    exact xr_vret hx hb hr hlocks hE hJ hK hP hS h dX8_offer_21
def m_X8_offer   (σ : SG) (p0 : Int32) (p1 : Int32) (p2 : Int32) : Option (Unit × SG) := m_X8_offer_0   σ p0 p1 p2
set_option maxHeartbeats 4000000 in
set_option maxRecDepth 100000 in
theorem k_X8_offer (l : Launch) {E : EF} (Z : ZT)    (σ : SG) (p0 : Int32) (p1 : Int32) (p2 : Int32) {res : Unit × SG} (h : m_X8_offer   σ p0 p1 p2 = some res) : Met l yX8_offer wsX8_offer rm_X8_offer (va_Pc [.ref (za Z 206), .int p0, .int p1, .int p2] (wx E (zD Z) vwCl 211 (za Z) (tX Z) (tysX Z) σ)) (xQv E (zD Z) vwCl 211 (za Z) (tX Z) (tysX Z) res) 0 0 (ws_A 211 (za Z)) := by
  refine Met.ofW (cc := cX8_offer) (maxL := 4) (ret := none) (by decide) rfl ?_
  intro p e s m args below meth c s₁ B hml hv
  obtain ⟨rfl, hE, hJ, hP, hK⟩ := hv
  have hl := lv_entry ([.ref (za Z 206), .int p0, .int p1, .int p2]) (n := 4) (Nat.le_of_ble_eq_true rfl)
  rw [lg_entry_eq]
  generalize (lg_sl ([.ref (za Z 206), .int p0, .int p1, .int p2]) ++ List.replicate (4 - (lg_sl ([.ref (za Z 206), .int p0, .int p1, .int p2])).length) Slot.unset).toArray = ls at hl ⊢
  exact kb_X8_offer_0 Z    ⟨B.exec, B.bytes, B.returns, B.notSynchronized, hml, findClass_of_methodNamed B.named, atoms_spec (ws := wsX8_offer) B.pre, hE, hJ, hK⟩ σ p0 p1 p2 h s.heap [] hP va_S.rf ls hl
/-! TuneSearch$Ways.stepWithSeveralOfB(LTuneSearch$NoteRow;LTuneSearch$NoteRow;II)V -/
abbrev rm_X8_stepWithSeveralOfB : Room := { frames := 1, cells := 0, slots := 0, locals := 21 }
theorem in_X8_stepWithSeveralOfB_X4 : ∀ w ∈ wsX40, w ∈ wsX8_stepWithSeveralOfB := by decide +kernel
theorem in_X8_stepWithSeveralOfB_X8 : ∀ w ∈ wsX80, w ∈ wsX8_stepWithSeveralOfB := by decide +kernel
def m_X8_stepWithSeveralOfB_128  (r0 : Nat) (r1 : Nat) (c54 : SG → Nat → Nat → Int32 → Int32 → Int32 → Int32 → Option (Unit × SG)) (σ : SG) (l5 : Nat) (l6 : Nat) (l7 : Int32) (l8 : Int32) (l9 : Int32) (l10 : Int32) : Option (Unit × SG) :=
  lS (l10 + 1) (fun v32 => c54 σ l5 l6 l7 l8 l9 v32)
set_option maxHeartbeats 4000000 in
set_option maxRecDepth 100000 in
theorem kb_X8_stepWithSeveralOfB_128 {p : Program} {l : Launch} {e : Env} {s : State} {m : MethodId} {args : Array Value} {below : List Frame} {meth : Method} {c : Code} {E : EF} (Z : ZT)  (r0 : Nat) (r1 : Nat) (hr0 : r0 < 9) (hr1 : r1 < 9) (C : cy p s m args meth c cX8_stepWithSeveralOfB none 12 RX8 wsX8_stepWithSeveralOfB E (zD Z) vwCl 211 (za Z) (tysX Z)) {res : Unit × SG} {c54 : SG → Nat → Nat → Int32 → Int32 → Int32 → Int32 → Option (Unit × SG)} (hc54 : ∀ (σ : SG) (l5 : Nat) (l6 : Nat) (l7 : Int32) (l8 : Int32) (l9 : Int32) (l10 : Int32) (hl5 : l5 < 24) (hl6 : l6 < 25), c54 σ l5 l6 l7 l8 l9 l10 = some res → ∀ (H : Heap) (locs : List Loc), ws_P (zD Z) vwCl 211 (za Z) (tX Z) σ H → va_S (ws_A 211 (za Z)) s.heap H locs → ∀ (ls : Array Slot), lv_has ls 12 [(0, .ref (za Z 206)), (2, .ref (za Z (156 + r1))), (5, .ref (za Z (66 + l5))), (6, .ref (za Z (41 + l6))), (7, .int l7), (8, .int l8), (9, .int l9), (10, .int l10)] → W p l e rm_X8_stepWithSeveralOfB s m args below meth c H locs 0 0 (MQ below (xQv E (zD Z) vwCl 211 (za Z) (tX Z) (tysX Z) res) args s 0 0 (ws_A 211 (za Z))) (F0 m 54 ls [])) : ∀ (σ : SG) (l5 : Nat) (l6 : Nat) (l7 : Int32) (l8 : Int32) (l9 : Int32) (l10 : Int32) (hl5 : l5 < 24) (hl6 : l6 < 25), m_X8_stepWithSeveralOfB_128  r0 r1 c54 σ l5 l6 l7 l8 l9 l10 = some res → ∀ (H : Heap) (locs : List Loc), ws_P (zD Z) vwCl 211 (za Z) (tX Z) σ H → va_S (ws_A 211 (za Z)) s.heap H locs → ∀ (ls : Array Slot), lv_has ls 12 [(0, .ref (za Z 206)), (2, .ref (za Z (156 + r1))), (5, .ref (za Z (66 + l5))), (6, .ref (za Z (41 + l6))), (7, .int l7), (8, .int l8), (9, .int l9), (10, .int l10)] → W p l e rm_X8_stepWithSeveralOfB s m args below meth c H locs 0 0 (MQ below (xQv E (zD Z) vwCl 211 (za Z) (tX Z) (tysX Z) res) args s 0 0 (ws_A 211 (za Z))) (F0 m 128 ls []) := by
  have C0 := C
  obtain ⟨hx, hb, hr, hlocks, hml, hown, hts, hE, hJ, hK⟩ := C0
  intro σ l5 l6 l7 l8 l9 l10 hl5 hl6 h H locs hP hS ls hl
  unfold m_X8_stepWithSeveralOfB_128 at h
  obtain ⟨v32, e33, h⟩ := lS_e h
  refine lv_iinc (v := v32) (lv' := [(10, .int v32), (0, .ref (za Z 206)), (2, .ref (za Z (156 + r1))), (5, .ref (za Z (66 + l5))), (6, .ref (za Z (41 + l6))), (7, .int l7), (8, .int l8), (9, .int l9)]) hx hb dX8_stepWithSeveralOfB_128 hl (k := 7) rfl (by rw [e33]; rfl) (by decide) rfl (fun ls hl => ?_)
  refine lv_goto (tgt := 54) hx hb dX8_stepWithSeveralOfB_131 (by decide) ?_
  exact hc54 σ l5 l6 l7 l8 l9 v32 hl5 hl6 h H locs hP hS ls (lv_sub hl [1, 2, 3, 4, 5, 6, 7, 0] rfl)
def m_X8_stepWithSeveralOfB_54_s  (r0 : Nat) (r1 : Nat)  (c54 : SG → Nat → Nat → Int32 → Int32 → Int32 → Int32 → Option (Unit × SG)) (σ : SG) (l5 : Nat) (l6 : Nat) (l7 : Int32) (l8 : Int32) (l9 : Int32) (l10 : Int32) : Option (Unit × SG) :=
  if l9 ≤ l10 then (some ((), σ)) else (if (σ.1 206 9) < l7 then (some ((), σ)) else (gB (inB l10 24) (lS (l7 + (σ.1 (66 + l5) l10.toNatClampNeg)) (fun v18 => gB (inB l10 (lenX (2 * r1 + 1))) (lS (l8 - (σ.1 (2 * r1 + 1) l10.toNatClampNeg)) (fun v21 => lS (if 0 ≤ v21 then v21 else 0 - v21) (fun v23 => lS (v18 + ((σ.1 206 6) * v23)) (fun v25 => gB (inB (l10 + 1) 25) (if (σ.1 (41 + l6) (l10 + 1).toNatClampNeg) ≤ v25 then (m_X8_stepWithSeveralOfB_128  r0 r1 c54 σ l5 l6 v18 v21 l9 l10) else (gB (inB (l10 + 1) 25) (lS (sI σ (41 + l6) (l10 + 1).toNatClampNeg v25) (fun σ30 => m_X8_stepWithSeveralOfB_128  r0 r1 c54 σ30 l5 l6 v18 v21 l9 l10))))))))))))
def m_X8_stepWithSeveralOfB_54  (r0 : Nat) (r1 : Nat)  : Nat → SG → Nat → Nat → Int32 → Int32 → Int32 → Int32 → Option (Unit × SG)
  | 0, _, _, _, _, _, _, _ => none
  | n + 1, σ, l5, l6, l7, l8, l9, l10 => m_X8_stepWithSeveralOfB_54_s  r0 r1  (m_X8_stepWithSeveralOfB_54  r0 r1  n) σ l5 l6 l7 l8 l9 l10
set_option maxHeartbeats 4000000 in
set_option maxRecDepth 100000 in
theorem kb_X8_stepWithSeveralOfB_54 {p : Program} {l : Launch} {e : Env} {s : State} {m : MethodId} {args : Array Value} {below : List Frame} {meth : Method} {c : Code} {E : EF} (Z : ZT)  (r0 : Nat) (r1 : Nat) (hr0 : r0 < 9) (hr1 : r1 < 9) (C : cy p s m args meth c cX8_stepWithSeveralOfB none 12 RX8 wsX8_stepWithSeveralOfB E (zD Z) vwCl 211 (za Z) (tysX Z)) {res : Unit × SG}   : ∀ (n : Nat) (σ : SG) (l5 : Nat) (l6 : Nat) (l7 : Int32) (l8 : Int32) (l9 : Int32) (l10 : Int32) (hl5 : l5 < 24) (hl6 : l6 < 25), m_X8_stepWithSeveralOfB_54  r0 r1  n σ l5 l6 l7 l8 l9 l10 = some res → ∀ (H : Heap) (locs : List Loc), ws_P (zD Z) vwCl 211 (za Z) (tX Z) σ H → va_S (ws_A 211 (za Z)) s.heap H locs → ∀ (ls : Array Slot), lv_has ls 12 [(0, .ref (za Z 206)), (2, .ref (za Z (156 + r1))), (5, .ref (za Z (66 + l5))), (6, .ref (za Z (41 + l6))), (7, .int l7), (8, .int l8), (9, .int l9), (10, .int l10)] → W p l e rm_X8_stepWithSeveralOfB s m args below meth c H locs 0 0 (MQ below (xQv E (zD Z) vwCl 211 (za Z) (tX Z) (tysX Z) res) args s 0 0 (ws_A 211 (za Z))) (F0 m 54 ls []) := by
  have C0 := C
  obtain ⟨hx, hb, hr, hlocks, hml, hown, hts, hE, hJ, hK⟩ := C0
  intro n
  induction n with
  | zero =>
    intro σ l5 l6 l7 l8 l9 l10 hl5 hl6 h
    cases h
  | succ n ih =>
    intro σ l5 l6 l7 l8 l9 l10 hl5 hl6 h H locs hP hS ls hl
    have hc54 : ∀ (σ : SG) (l5 : Nat) (l6 : Nat) (l7 : Int32) (l8 : Int32) (l9 : Int32) (l10 : Int32) (hl5 : l5 < 24) (hl6 : l6 < 25), m_X8_stepWithSeveralOfB_54  r0 r1  n σ l5 l6 l7 l8 l9 l10 = some res → ∀ (H : Heap) (locs : List Loc), ws_P (zD Z) vwCl 211 (za Z) (tX Z) σ H → va_S (ws_A 211 (za Z)) s.heap H locs → ∀ (ls : Array Slot), lv_has ls 12 [(0, .ref (za Z 206)), (2, .ref (za Z (156 + r1))), (5, .ref (za Z (66 + l5))), (6, .ref (za Z (41 + l6))), (7, .int l7), (8, .int l8), (9, .int l9), (10, .int l10)] → W p l e rm_X8_stepWithSeveralOfB s m args below meth c H locs 0 0 (MQ below (xQv E (zD Z) vwCl 211 (za Z) (tX Z) (tysX Z) res) args s 0 0 (ws_A 211 (za Z))) (F0 m 54 ls []) := ih
    have h : m_X8_stepWithSeveralOfB_54_s  r0 r1  (m_X8_stepWithSeveralOfB_54  r0 r1  n) σ l5 l6 l7 l8 l9 l10 = some res := h
    unfold m_X8_stepWithSeveralOfB_54_s at h
    refine lv_iload hx hb dX8_stepWithSeveralOfB_54 (lv_at hl 7 rfl) ?_
    refine lv_iload hx hb dX8_stepWithSeveralOfB_56 (lv_at hl 6 rfl) ?_
    refine lv_icmp_ge (tgt := 134) hx hb dX8_stepWithSeveralOfB_58 (by decide) (fun q15 => ?_) (fun q15 => ?_)
    · have h := if_p h q15
      exact xr_vret hx hb hr hlocks hE hJ hK hP hS h dX8_stepWithSeveralOfB_134
    · have h := if_n h q15
      refine lv_iload hx hb dX8_stepWithSeveralOfB_61 (lv_at hl 4 rfl) ?_
      refine lv_aload_n hx hb dX8_stepWithSeveralOfB_63 rfl (lv_at hl 0 rfl) ?_
      refine wr_get (C := RX8) (T := TX8) (N := 10) hx hb hts (in_X8_stepWithSeveralOfB_X8) hown hK hP (k := 206) (by decide) ((tX_Ways Z) _ _ _) rfl 9 (by decide) (hts (.fieldLink RX8 81 "TuneSearch$Ways" "limit" "I") (by decide +kernel)) (fun _ h9 => h9) rfl dX8_stepWithSeveralOfB_64 ?_
      refine lv_icmp_gt (tgt := 134) hx hb dX8_stepWithSeveralOfB_67 (by decide) (fun q16 => ?_) (fun q16 => ?_)
      · have h := if_p h q16
        exact xr_vret hx hb hr hlocks hE hJ hK hP hS h dX8_stepWithSeveralOfB_134
      · have h := if_n h q16
        refine lv_iload hx hb dX8_stepWithSeveralOfB_70 (lv_at hl 4 rfl) ?_
        refine lv_aload hx hb dX8_stepWithSeveralOfB_72 (lv_at hl 2 rfl) ?_
        refine lv_iload hx hb dX8_stepWithSeveralOfB_74 (lv_at hl 7 rfl) ?_
        obtain ⟨b17, h⟩ := gB_e h
        refine wr_iald hx hb hK hP (k := (66 + l5)) (by omega) 0 ((tX_pairs Z l5 hl5) _ _ _) rfl b17 dX8_stepWithSeveralOfB_76 ?_
        refine lv_iadd hx hb dX8_stepWithSeveralOfB_77 ?_
        refine lv_topi (fun v18 e19 => ?_)
        have h := lS_u h e19
        refine lv_istore (lv' := [(7, .int v18), (0, .ref (za Z 206)), (2, .ref (za Z (156 + r1))), (5, .ref (za Z (66 + l5))), (6, .ref (za Z (41 + l6))), (8, .int l8), (9, .int l9), (10, .int l10)]) hx hb dX8_stepWithSeveralOfB_78 hl (by decide) rfl (fun ls hl => ?_)
        refine lv_iload hx hb dX8_stepWithSeveralOfB_80 (lv_at hl 5 rfl) ?_
        refine lv_aload_n hx hb dX8_stepWithSeveralOfB_82 rfl (lv_at hl 2 rfl) ?_
        refine wr_get (C := RX4) (T := TX4) (N := 3) hx hb hts (in_X8_stepWithSeveralOfB_X4) hown hK hP (k := (156 + r1)) (by omega) ((tX_NoteRow Z r1 hr1) _ _ _) rfl 1 (by decide) (hts (.fieldLink RX8 99 "TuneSearch$NoteRow" "lengths" "[I") (by decide +kernel)) (fun _ h9 => h9) rfl dX8_stepWithSeveralOfB_83 ?_
        refine lv_iload hx hb dX8_stepWithSeveralOfB_86 (lv_at hl 7 rfl) ?_
        obtain ⟨b20, h⟩ := gB_e h
        refine wr_iald hx hb hK hP (k := (2 * r1 + 1)) (by omega) 0 ((tX_I Z (2 * r1 + 1) (by omega)) _ _ _) rfl b20 dX8_stepWithSeveralOfB_88 ?_
        refine lv_isub hx hb dX8_stepWithSeveralOfB_89 ?_
        refine lv_topi (fun v21 e22 => ?_)
        have h := lS_u h e22
        refine lv_istore (lv' := [(8, .int v21), (7, .int v18), (0, .ref (za Z 206)), (2, .ref (za Z (156 + r1))), (5, .ref (za Z (66 + l5))), (6, .ref (za Z (41 + l6))), (9, .int l9), (10, .int l10)]) hx hb dX8_stepWithSeveralOfB_90 hl (by decide) rfl (fun ls hl => ?_)
        refine lv_iload hx hb dX8_stepWithSeveralOfB_92 (lv_at hl 1 rfl) ?_
        refine lv_aload_n hx hb dX8_stepWithSeveralOfB_94 rfl (lv_at hl 2 rfl) ?_
        refine wr_get (C := RX8) (T := TX8) (N := 10) hx hb hts (in_X8_stepWithSeveralOfB_X8) hown hK hP (k := 206) (by decide) ((tX_Ways Z) _ _ _) rfl 6 (by decide) (hts (.fieldLink RX8 71 "TuneSearch$Ways" "lengthPrice" "I") (by decide +kernel)) (fun _ h9 => h9) rfl dX8_stepWithSeveralOfB_95 ?_
        refine lv_iload hx hb dX8_stepWithSeveralOfB_98 (lv_at hl 0 rfl) ?_
        refine va_mabs hx hb (by rw [hml]; exact hl.1.symm) hown (hts (.methodLink RX8 95 Lib.Math.abs.name) (by decide +kernel)) (hts (.static Lib.Math.abs.name) (by decide +kernel)) (hts (.initialized "java/lang/Math") (by decide +kernel)) (hts (.code Lib.Math.abs.name Lib.Math.abs.code 1 (some .int)) (by decide +kernel)) (Nat.le_of_ble_eq_true rfl) (Nat.le_of_ble_eq_true rfl) (Nat.le_of_ble_eq_true rfl) (Nat.le_of_ble_eq_true rfl) dX8_stepWithSeveralOfB_100 ?_
        refine lv_topi (fun v23 e24 => ?_)
        have h := lS_u h e24
        refine lv_imul hx hb dX8_stepWithSeveralOfB_103 ?_
        refine lv_iadd hx hb dX8_stepWithSeveralOfB_104 ?_
        refine lv_topi (fun v25 e26 => ?_)
        have h := lS_u h e26
        refine lv_istore (lv' := [(11, .int v25), (8, .int v21), (7, .int v18), (0, .ref (za Z 206)), (2, .ref (za Z (156 + r1))), (5, .ref (za Z (66 + l5))), (6, .ref (za Z (41 + l6))), (9, .int l9), (10, .int l10)]) hx hb dX8_stepWithSeveralOfB_105 hl (by decide) rfl (fun ls hl => ?_)
        refine lv_iload hx hb dX8_stepWithSeveralOfB_107 (lv_at hl 0 rfl) ?_
        refine lv_aload hx hb dX8_stepWithSeveralOfB_109 (lv_at hl 6 rfl) ?_
        refine lv_iload hx hb dX8_stepWithSeveralOfB_111 (lv_at hl 8 rfl) ?_
        refine lv_iconst (v := 1) hx hb dX8_stepWithSeveralOfB_113 (by decide) ?_
        refine lv_iadd hx hb dX8_stepWithSeveralOfB_114 ?_
        obtain ⟨b27, h⟩ := gB_e h
        refine wr_iald hx hb hK hP (k := (41 + l6)) (by omega) 0 ((tX_cells Z l6 hl6) _ _ _) rfl b27 dX8_stepWithSeveralOfB_115 ?_
        refine lv_icmp_ge (tgt := 128) hx hb dX8_stepWithSeveralOfB_116 (by decide) (fun q28 => ?_) (fun q28 => ?_)
        · have h := if_p h q28
          exact kb_X8_stepWithSeveralOfB_128 Z  r0 r1 hr0 hr1 C  hc54 σ l5 l6 v18 v21 l9 l10 hl5 hl6 h H locs hP hS ls (lv_sub hl [3, 4, 5, 6, 2, 1, 7, 8] rfl)
        · have h := if_n h q28
          refine lv_aload hx hb dX8_stepWithSeveralOfB_119 (lv_at hl 6 rfl) ?_
          refine lv_iload hx hb dX8_stepWithSeveralOfB_121 (lv_at hl 8 rfl) ?_
          refine lv_iconst (v := 1) hx hb dX8_stepWithSeveralOfB_123 (by decide) ?_
          refine lv_iadd hx hb dX8_stepWithSeveralOfB_124 ?_
          refine lv_iload hx hb dX8_stepWithSeveralOfB_125 (lv_at hl 0 rfl) ?_
          obtain ⟨b29, h⟩ := gB_e h
          refine wr_iast hx hb hK hP hJ hS (k := (41 + l6)) (by omega) 0 (tX_cells Z l6 hl6) rfl b29 dX8_stepWithSeveralOfB_127 (fun H locs hP hS => ?_)
          obtain ⟨σ30, e31, h⟩ := lS_e h
          rw [← e31] at hP
          exact kb_X8_stepWithSeveralOfB_128 Z  r0 r1 hr0 hr1 C  hc54 σ30 l5 l6 v18 v21 l9 l10 hl5 hl6 h H locs hP hS ls (lv_sub hl [3, 4, 5, 6, 2, 1, 7, 8] rfl)
def m_X8_stepWithSeveralOfB_0  (r0 : Nat) (r1 : Nat)  (σ : SG) (p2 : Int32) (p3 : Int32) : Option (Unit × SG) :=
  gB (inB p2 24) (gB (inB (p2 + 1) 25) (gB (inB p2 25) (gB (inB p3 25) (lS (σ.1 (41 + p2.toNatClampNeg) p3.toNatClampNeg) (fun v8 => gB (inB p2 (lenX (2 * r0 + 1))) (lS (σ.1 (2 * r0 + 1) p2.toNatClampNeg) (fun v11 => lS (if (p3 + 4) < (σ.1 (156 + r1) 2) then (p3 + 4) else (σ.1 (156 + r1) 2)) (fun v13 => m_X8_stepWithSeveralOfB_54  r0 r1  FV σ p2.toNatClampNeg ((p2 + 1).toNatClampNeg) v8 v11 v13 p3))))))))
set_option maxHeartbeats 4000000 in
set_option maxRecDepth 100000 in
theorem kb_X8_stepWithSeveralOfB_0 {p : Program} {l : Launch} {e : Env} {s : State} {m : MethodId} {args : Array Value} {below : List Frame} {meth : Method} {c : Code} {E : EF} (Z : ZT)  (r0 : Nat) (r1 : Nat) (hr0 : r0 < 9) (hr1 : r1 < 9) (C : cy p s m args meth c cX8_stepWithSeveralOfB none 12 RX8 wsX8_stepWithSeveralOfB E (zD Z) vwCl 211 (za Z) (tysX Z)) {res : Unit × SG}   : ∀ (σ : SG) (p2 : Int32) (p3 : Int32) , m_X8_stepWithSeveralOfB_0  r0 r1  σ p2 p3 = some res → ∀ (H : Heap) (locs : List Loc), ws_P (zD Z) vwCl 211 (za Z) (tX Z) σ H → va_S (ws_A 211 (za Z)) s.heap H locs → ∀ (ls : Array Slot), lv_has ls 12 [(0, .ref (za Z 206)), (1, .ref (za Z (156 + r0))), (2, .ref (za Z (156 + r1))), (3, .int p2), (4, .int p3)] → W p l e rm_X8_stepWithSeveralOfB s m args below meth c H locs 0 0 (MQ below (xQv E (zD Z) vwCl 211 (za Z) (tX Z) (tysX Z) res) args s 0 0 (ws_A 211 (za Z))) (F0 m 0 ls []) := by
  have C0 := C
  obtain ⟨hx, hb, hr, hlocks, hml, hown, hts, hE, hJ, hK⟩ := C0
  intro σ p2 p3  h H locs hP hS ls hl
  unfold m_X8_stepWithSeveralOfB_0 at h
  refine lv_aload_n hx hb dX8_stepWithSeveralOfB_0 rfl (lv_at hl 0 rfl) ?_
  refine wr_get (C := RX8) (T := TX8) (N := 10) hx hb hts (in_X8_stepWithSeveralOfB_X8) hown hK hP (k := 206) (by decide) ((tX_Ways Z) _ _ _) rfl 1 (by decide) (hts (.fieldLink RX8 18 "TuneSearch$Ways" "pairs" "[[I") (by decide +kernel)) (fun _ h9 => h9) rfl dX8_stepWithSeveralOfB_1 ?_
  refine lv_iload_n hx hb dX8_stepWithSeveralOfB_4 rfl (lv_at hl 3 rfl) ?_
  obtain ⟨b1, h⟩ := gB_e h
  have hi2 := inB_lt b1
  refine wr_aald hx hb hK hP (k := 151) (by decide) 5 rfl ((tX_pairsO Z) _ _ _) rfl b1 (row_at hi2) dX8_stepWithSeveralOfB_5 ?_
  refine lv_astore (lv' := [(5, .ref (za Z (66 + p2.toNatClampNeg))), (0, .ref (za Z 206)), (1, .ref (za Z (156 + r0))), (2, .ref (za Z (156 + r1))), (3, .int p2), (4, .int p3)]) hx hb dX8_stepWithSeveralOfB_6 hl (by decide) rfl (fun ls hl => ?_)
  refine lv_aload_n hx hb dX8_stepWithSeveralOfB_8 rfl (lv_at hl 1 rfl) ?_
  refine wr_get (C := RX8) (T := TX8) (N := 10) hx hb hts (in_X8_stepWithSeveralOfB_X8) hown hK hP (k := 206) (by decide) ((tX_Ways Z) _ _ _) rfl 0 (by decide) (hts (.fieldLink RX8 13 "TuneSearch$Ways" "cells" "[[I") (by decide +kernel)) (fun _ h9 => h9) rfl dX8_stepWithSeveralOfB_9 ?_
  refine lv_iload_n hx hb dX8_stepWithSeveralOfB_12 rfl (lv_at hl 4 rfl) ?_
  refine lv_iconst (v := 1) hx hb dX8_stepWithSeveralOfB_13 (by decide) ?_
  refine lv_iadd hx hb dX8_stepWithSeveralOfB_14 ?_
  obtain ⟨b3, h⟩ := gB_e h
  have hi4 := inB_lt b3
  refine wr_aald hx hb hK hP (k := 150) (by decide) 5 rfl ((tX_cellsO Z) _ _ _) rfl b3 (row_at hi4) dX8_stepWithSeveralOfB_15 ?_
  refine lv_astore (lv' := [(6, .ref (za Z (41 + (p2 + 1).toNatClampNeg))), (5, .ref (za Z (66 + p2.toNatClampNeg))), (0, .ref (za Z 206)), (1, .ref (za Z (156 + r0))), (2, .ref (za Z (156 + r1))), (3, .int p2), (4, .int p3)]) hx hb dX8_stepWithSeveralOfB_16 hl (by decide) rfl (fun ls hl => ?_)
  refine lv_aload_n hx hb dX8_stepWithSeveralOfB_18 rfl (lv_at hl 2 rfl) ?_
  refine wr_get (C := RX8) (T := TX8) (N := 10) hx hb hts (in_X8_stepWithSeveralOfB_X8) hown hK hP (k := 206) (by decide) ((tX_Ways Z) _ _ _) rfl 0 (by decide) (hts (.fieldLink RX8 13 "TuneSearch$Ways" "cells" "[[I") (by decide +kernel)) (fun _ h9 => h9) rfl dX8_stepWithSeveralOfB_19 ?_
  refine lv_iload_n hx hb dX8_stepWithSeveralOfB_22 rfl (lv_at hl 5 rfl) ?_
  obtain ⟨b5, h⟩ := gB_e h
  have hi6 := inB_lt b5
  refine wr_aald hx hb hK hP (k := 150) (by decide) 5 rfl ((tX_cellsO Z) _ _ _) rfl b5 (row_at hi6) dX8_stepWithSeveralOfB_23 ?_
  refine lv_iload hx hb dX8_stepWithSeveralOfB_24 (lv_at hl 6 rfl) ?_
  obtain ⟨b7, h⟩ := gB_e h
  refine wr_iald hx hb hK hP (k := (41 + p2.toNatClampNeg)) (by omega) 0 ((tX_cells Z p2.toNatClampNeg hi6) _ _ _) rfl b7 dX8_stepWithSeveralOfB_26 ?_
  refine lv_topi (fun v8 e9 => ?_)
  have h := lS_u h e9
  refine lv_istore (lv' := [(7, .int v8), (6, .ref (za Z (41 + (p2 + 1).toNatClampNeg))), (5, .ref (za Z (66 + p2.toNatClampNeg))), (0, .ref (za Z 206)), (1, .ref (za Z (156 + r0))), (2, .ref (za Z (156 + r1))), (3, .int p2), (4, .int p3)]) hx hb dX8_stepWithSeveralOfB_27 hl (by decide) rfl (fun ls hl => ?_)
  refine lv_aload_n hx hb dX8_stepWithSeveralOfB_29 rfl (lv_at hl 4 rfl) ?_
  refine wr_get (C := RX4) (T := TX4) (N := 3) hx hb hts (in_X8_stepWithSeveralOfB_X4) hown hK hP (k := (156 + r0)) (by omega) ((tX_NoteRow Z r0 hr0) _ _ _) rfl 1 (by decide) (hts (.fieldLink RX8 99 "TuneSearch$NoteRow" "lengths" "[I") (by decide +kernel)) (fun _ h9 => h9) rfl dX8_stepWithSeveralOfB_30 ?_
  refine lv_iload_n hx hb dX8_stepWithSeveralOfB_33 rfl (lv_at hl 6 rfl) ?_
  obtain ⟨b10, h⟩ := gB_e h
  refine wr_iald hx hb hK hP (k := (2 * r0 + 1)) (by omega) 0 ((tX_I Z (2 * r0 + 1) (by omega)) _ _ _) rfl b10 dX8_stepWithSeveralOfB_34 ?_
  refine lv_topi (fun v11 e12 => ?_)
  have h := lS_u h e12
  refine lv_istore (lv' := [(8, .int v11), (7, .int v8), (6, .ref (za Z (41 + (p2 + 1).toNatClampNeg))), (5, .ref (za Z (66 + p2.toNatClampNeg))), (0, .ref (za Z 206)), (1, .ref (za Z (156 + r0))), (2, .ref (za Z (156 + r1))), (3, .int p2), (4, .int p3)]) hx hb dX8_stepWithSeveralOfB_35 hl (by decide) rfl (fun ls hl => ?_)
  refine lv_aload_n hx hb dX8_stepWithSeveralOfB_37 rfl (lv_at hl 6 rfl) ?_
  refine wr_get (C := RX4) (T := TX4) (N := 3) hx hb hts (in_X8_stepWithSeveralOfB_X4) hown hK hP (k := (156 + r1)) (by omega) ((tX_NoteRow Z r1 hr1) _ _ _) rfl 2 (by decide) (hts (.fieldLink RX8 40 "TuneSearch$NoteRow" "count" "I") (by decide +kernel)) (fun _ h9 => h9) rfl dX8_stepWithSeveralOfB_38 ?_
  refine lv_iload hx hb dX8_stepWithSeveralOfB_41 (lv_at hl 8 rfl) ?_
  refine lv_iconst (v := 4) hx hb dX8_stepWithSeveralOfB_43 (by decide) ?_
  refine lv_iadd hx hb dX8_stepWithSeveralOfB_44 ?_
  refine va_mmin hx hb (by rw [hml]; exact hl.1.symm) hown (hts (.methodLink RX8 50 Lib.Math.min.name) (by decide +kernel)) (hts (.static Lib.Math.min.name) (by decide +kernel)) (hts (.initialized "java/lang/Math") (by decide +kernel)) (hts (.code Lib.Math.min.name Lib.Math.min.code 2 (some .int)) (by decide +kernel)) (Nat.le_of_ble_eq_true rfl) (Nat.le_of_ble_eq_true rfl) (Nat.le_of_ble_eq_true rfl) (Nat.le_of_ble_eq_true rfl) dX8_stepWithSeveralOfB_45 ?_
  refine lv_topi (fun v13 e14 => ?_)
  have h := lS_u h e14
  refine lv_istore (lv' := [(9, .int v13), (8, .int v11), (7, .int v8), (6, .ref (za Z (41 + (p2 + 1).toNatClampNeg))), (5, .ref (za Z (66 + p2.toNatClampNeg))), (0, .ref (za Z 206)), (1, .ref (za Z (156 + r0))), (2, .ref (za Z (156 + r1))), (3, .int p2), (4, .int p3)]) hx hb dX8_stepWithSeveralOfB_48 hl (by decide) rfl (fun ls hl => ?_)
  refine lv_iload hx hb dX8_stepWithSeveralOfB_50 (lv_at hl 9 rfl) ?_
  refine lv_istore (lv' := [(10, .int p3), (9, .int v13), (8, .int v11), (7, .int v8), (6, .ref (za Z (41 + (p2 + 1).toNatClampNeg))), (5, .ref (za Z (66 + p2.toNatClampNeg))), (0, .ref (za Z 206)), (1, .ref (za Z (156 + r0))), (2, .ref (za Z (156 + r1))), (3, .int p2), (4, .int p3)]) hx hb dX8_stepWithSeveralOfB_52 hl (by decide) rfl (fun ls hl => ?_)
  exact kb_X8_stepWithSeveralOfB_54 Z  r0 r1 hr0 hr1 C   FV σ p2.toNatClampNeg ((p2 + 1).toNatClampNeg) v8 v11 v13 p3 hi2 hi4 h H locs hP hS ls (lv_sub hl [6, 8, 5, 4, 3, 2, 1, 0] rfl)
def m_X8_stepWithSeveralOfB  (r0 : Nat) (r1 : Nat) (σ : SG) (p2 : Int32) (p3 : Int32) : Option (Unit × SG) := m_X8_stepWithSeveralOfB_0  r0 r1 σ p2 p3
set_option maxHeartbeats 4000000 in
set_option maxRecDepth 100000 in
theorem k_X8_stepWithSeveralOfB (l : Launch) {E : EF} (Z : ZT)  (r0 : Nat) (r1 : Nat) (hr0 : r0 < 9) (hr1 : r1 < 9) (σ : SG) (p2 : Int32) (p3 : Int32) {res : Unit × SG} (h : m_X8_stepWithSeveralOfB  r0 r1 σ p2 p3 = some res) : Met l yX8_stepWithSeveralOfB wsX8_stepWithSeveralOfB rm_X8_stepWithSeveralOfB (va_Pc [.ref (za Z 206), .ref (za Z (156 + r0)), .ref (za Z (156 + r1)), .int p2, .int p3] (wx E (zD Z) vwCl 211 (za Z) (tX Z) (tysX Z) σ)) (xQv E (zD Z) vwCl 211 (za Z) (tX Z) (tysX Z) res) 0 0 (ws_A 211 (za Z)) := by
  refine Met.ofW (cc := cX8_stepWithSeveralOfB) (maxL := 12) (ret := none) (by decide) rfl ?_
  intro p e s m args below meth c s₁ B hml hv
  obtain ⟨rfl, hE, hJ, hP, hK⟩ := hv
  have hl := lv_entry ([.ref (za Z 206), .ref (za Z (156 + r0)), .ref (za Z (156 + r1)), .int p2, .int p3]) (n := 12) (Nat.le_of_ble_eq_true rfl)
  rw [lg_entry_eq]
  generalize (lg_sl ([.ref (za Z 206), .ref (za Z (156 + r0)), .ref (za Z (156 + r1)), .int p2, .int p3]) ++ List.replicate (12 - (lg_sl ([.ref (za Z 206), .ref (za Z (156 + r0)), .ref (za Z (156 + r1)), .int p2, .int p3])).length) Slot.unset).toArray = ls at hl ⊢
  exact kb_X8_stepWithSeveralOfB_0 Z  r0 r1 hr0 hr1 ⟨B.exec, B.bytes, B.returns, B.notSynchronized, hml, findClass_of_methodNamed B.named, atoms_spec (ws := wsX8_stepWithSeveralOfB) B.pre, hE, hJ, hK⟩ σ p2 p3 h s.heap [] hP va_S.rf ls hl
/-! TuneSearch$Ways.stepWithSeveralOfA(LTuneSearch$NoteRow;LTuneSearch$NoteRow;II)V -/
abbrev rm_X8_stepWithSeveralOfA : Room := { frames := 1, cells := 0, slots := 0, locals := 23 }
theorem in_X8_stepWithSeveralOfA_X4 : ∀ w ∈ wsX40, w ∈ wsX8_stepWithSeveralOfA := by decide +kernel
theorem in_X8_stepWithSeveralOfA_X8 : ∀ w ∈ wsX80, w ∈ wsX8_stepWithSeveralOfA := by decide +kernel
def m_X8_stepWithSeveralOfA_54_s  (r0 : Nat) (r1 : Nat)  (c54 : SG → Int32 → Int32 → Int32 → Int32 → Int32 → Option (Unit × SG)) (σ : SG) (l4 : Int32) (l5 : Int32) (l6 : Int32) (l7 : Int32) (l8 : Int32) : Option (Unit × SG) :=
  if l7 ≤ l8 then (some ((), σ)) else (if (σ.1 206 9) < l5 then (some ((), σ)) else (gB (inB l8 24) (gB (inB l4 24) (lS (l5 + (σ.1 (66 + l8.toNatClampNeg) l4.toNatClampNeg)) (fun v22 => gB (inB l8 (lenX (2 * r0 + 1))) (lS (l6 - (σ.1 (2 * r0 + 1) l8.toNatClampNeg)) (fun v25 => lS (if 0 ≤ v25 then v25 else 0 - v25) (fun v27 => bi (m_X8_offer  σ (l8 + 1) (l4 + 1) (v22 + ((σ.1 206 6) * v27))) (fun v29 σ30 => lS (l8 + 1) (fun v32 => c54 σ30 l4 v22 v25 l7 v32))))))))))
def m_X8_stepWithSeveralOfA_54  (r0 : Nat) (r1 : Nat)  : Nat → SG → Int32 → Int32 → Int32 → Int32 → Int32 → Option (Unit × SG)
  | 0, _, _, _, _, _, _ => none
  | n + 1, σ, l4, l5, l6, l7, l8 => m_X8_stepWithSeveralOfA_54_s  r0 r1  (m_X8_stepWithSeveralOfA_54  r0 r1  n) σ l4 l5 l6 l7 l8
set_option maxHeartbeats 4000000 in
set_option maxRecDepth 100000 in
theorem kb_X8_stepWithSeveralOfA_54 {p : Program} {l : Launch} {e : Env} {s : State} {m : MethodId} {args : Array Value} {below : List Frame} {meth : Method} {c : Code} {E : EF} (Z : ZT)  (r0 : Nat) (r1 : Nat) (hr0 : r0 < 9) (hr1 : r1 < 9) (C : cy p s m args meth c cX8_stepWithSeveralOfA none 9 RX8 wsX8_stepWithSeveralOfA E (zD Z) vwCl 211 (za Z) (tysX Z)) {res : Unit × SG}   : ∀ (n : Nat) (σ : SG) (l4 : Int32) (l5 : Int32) (l6 : Int32) (l7 : Int32) (l8 : Int32) , m_X8_stepWithSeveralOfA_54  r0 r1  n σ l4 l5 l6 l7 l8 = some res → ∀ (H : Heap) (locs : List Loc), ws_P (zD Z) vwCl 211 (za Z) (tX Z) σ H → va_S (ws_A 211 (za Z)) s.heap H locs → ∀ (ls : Array Slot), lv_has ls 9 [(0, .ref (za Z 206)), (1, .ref (za Z (156 + r0))), (4, .int l4), (5, .int l5), (6, .int l6), (7, .int l7), (8, .int l8)] → W p l e rm_X8_stepWithSeveralOfA s m args below meth c H locs 0 0 (MQ below (xQv E (zD Z) vwCl 211 (za Z) (tX Z) (tysX Z) res) args s 0 0 (ws_A 211 (za Z))) (F0 m 54 ls []) := by
  have C0 := C
  obtain ⟨hx, hb, hr, hlocks, hml, hown, hts, hE, hJ, hK⟩ := C0
  intro n
  induction n with
  | zero =>
    intro σ l4 l5 l6 l7 l8  h
    cases h
  | succ n ih =>
    intro σ l4 l5 l6 l7 l8  h H locs hP hS ls hl
    have hc54 : ∀ (σ : SG) (l4 : Int32) (l5 : Int32) (l6 : Int32) (l7 : Int32) (l8 : Int32) , m_X8_stepWithSeveralOfA_54  r0 r1  n σ l4 l5 l6 l7 l8 = some res → ∀ (H : Heap) (locs : List Loc), ws_P (zD Z) vwCl 211 (za Z) (tX Z) σ H → va_S (ws_A 211 (za Z)) s.heap H locs → ∀ (ls : Array Slot), lv_has ls 9 [(0, .ref (za Z 206)), (1, .ref (za Z (156 + r0))), (4, .int l4), (5, .int l5), (6, .int l6), (7, .int l7), (8, .int l8)] → W p l e rm_X8_stepWithSeveralOfA s m args below meth c H locs 0 0 (MQ below (xQv E (zD Z) vwCl 211 (za Z) (tX Z) (tysX Z) res) args s 0 0 (ws_A 211 (za Z))) (F0 m 54 ls []) := ih
    have h : m_X8_stepWithSeveralOfA_54_s  r0 r1  (m_X8_stepWithSeveralOfA_54  r0 r1  n) σ l4 l5 l6 l7 l8 = some res := h
    unfold m_X8_stepWithSeveralOfA_54_s at h
    refine lv_iload hx hb dX8_stepWithSeveralOfA_54 (lv_at hl 6 rfl) ?_
    refine lv_iload hx hb dX8_stepWithSeveralOfA_56 (lv_at hl 5 rfl) ?_
    refine lv_icmp_ge (tgt := 128) hx hb dX8_stepWithSeveralOfA_58 (by decide) (fun q17 => ?_) (fun q17 => ?_)
    · have h := if_p h q17
      exact xr_vret hx hb hr hlocks hE hJ hK hP hS h dX8_stepWithSeveralOfA_128
    · have h := if_n h q17
      refine lv_iload hx hb dX8_stepWithSeveralOfA_61 (lv_at hl 3 rfl) ?_
      refine lv_aload_n hx hb dX8_stepWithSeveralOfA_63 rfl (lv_at hl 0 rfl) ?_
      refine wr_get (C := RX8) (T := TX8) (N := 10) hx hb hts (in_X8_stepWithSeveralOfA_X8) hown hK hP (k := 206) (by decide) ((tX_Ways Z) _ _ _) rfl 9 (by decide) (hts (.fieldLink RX8 81 "TuneSearch$Ways" "limit" "I") (by decide +kernel)) (fun _ h9 => h9) rfl dX8_stepWithSeveralOfA_64 ?_
      refine lv_icmp_gt (tgt := 128) hx hb dX8_stepWithSeveralOfA_67 (by decide) (fun q18 => ?_) (fun q18 => ?_)
      · have h := if_p h q18
        exact xr_vret hx hb hr hlocks hE hJ hK hP hS h dX8_stepWithSeveralOfA_128
      · have h := if_n h q18
        refine lv_iload hx hb dX8_stepWithSeveralOfA_70 (lv_at hl 3 rfl) ?_
        refine lv_aload_n hx hb dX8_stepWithSeveralOfA_72 rfl (lv_at hl 0 rfl) ?_
        refine wr_get (C := RX8) (T := TX8) (N := 10) hx hb hts (in_X8_stepWithSeveralOfA_X8) hown hK hP (k := 206) (by decide) ((tX_Ways Z) _ _ _) rfl 1 (by decide) (hts (.fieldLink RX8 18 "TuneSearch$Ways" "pairs" "[[I") (by decide +kernel)) (fun _ h9 => h9) rfl dX8_stepWithSeveralOfA_73 ?_
        refine lv_iload hx hb dX8_stepWithSeveralOfA_76 (lv_at hl 6 rfl) ?_
        obtain ⟨b19, h⟩ := gB_e h
        have hi20 := inB_lt b19
        refine wr_aald hx hb hK hP (k := 151) (by decide) 5 rfl ((tX_pairsO Z) _ _ _) rfl b19 (row_at hi20) dX8_stepWithSeveralOfA_78 ?_
        refine lv_iload hx hb dX8_stepWithSeveralOfA_79 (lv_at hl 2 rfl) ?_
        obtain ⟨b21, h⟩ := gB_e h
        refine wr_iald hx hb hK hP (k := (66 + l8.toNatClampNeg)) (by omega) 0 ((tX_pairs Z l8.toNatClampNeg hi20) _ _ _) rfl b21 dX8_stepWithSeveralOfA_81 ?_
        refine lv_iadd hx hb dX8_stepWithSeveralOfA_82 ?_
        refine lv_topi (fun v22 e23 => ?_)
        have h := lS_u h e23
        refine lv_istore (lv' := [(5, .int v22), (0, .ref (za Z 206)), (1, .ref (za Z (156 + r0))), (4, .int l4), (6, .int l6), (7, .int l7), (8, .int l8)]) hx hb dX8_stepWithSeveralOfA_83 hl (by decide) rfl (fun ls hl => ?_)
        refine lv_iload hx hb dX8_stepWithSeveralOfA_85 (lv_at hl 4 rfl) ?_
        refine lv_aload_n hx hb dX8_stepWithSeveralOfA_87 rfl (lv_at hl 2 rfl) ?_
        refine wr_get (C := RX4) (T := TX4) (N := 3) hx hb hts (in_X8_stepWithSeveralOfA_X4) hown hK hP (k := (156 + r0)) (by omega) ((tX_NoteRow Z r0 hr0) _ _ _) rfl 1 (by decide) (hts (.fieldLink RX8 99 "TuneSearch$NoteRow" "lengths" "[I") (by decide +kernel)) (fun _ h9 => h9) rfl dX8_stepWithSeveralOfA_88 ?_
        refine lv_iload hx hb dX8_stepWithSeveralOfA_91 (lv_at hl 6 rfl) ?_
        obtain ⟨b24, h⟩ := gB_e h
        refine wr_iald hx hb hK hP (k := (2 * r0 + 1)) (by omega) 0 ((tX_I Z (2 * r0 + 1) (by omega)) _ _ _) rfl b24 dX8_stepWithSeveralOfA_93 ?_
        refine lv_isub hx hb dX8_stepWithSeveralOfA_94 ?_
        refine lv_topi (fun v25 e26 => ?_)
        have h := lS_u h e26
        refine lv_istore (lv' := [(6, .int v25), (5, .int v22), (0, .ref (za Z 206)), (1, .ref (za Z (156 + r0))), (4, .int l4), (7, .int l7), (8, .int l8)]) hx hb dX8_stepWithSeveralOfA_95 hl (by decide) rfl (fun ls hl => ?_)
        refine lv_aload_n hx hb dX8_stepWithSeveralOfA_97 rfl (lv_at hl 2 rfl) ?_
        refine lv_iload hx hb dX8_stepWithSeveralOfA_98 (lv_at hl 6 rfl) ?_
        refine lv_iconst (v := 1) hx hb dX8_stepWithSeveralOfA_100 (by decide) ?_
        refine lv_iadd hx hb dX8_stepWithSeveralOfA_101 ?_
        refine lv_iload hx hb dX8_stepWithSeveralOfA_102 (lv_at hl 4 rfl) ?_
        refine lv_iconst (v := 1) hx hb dX8_stepWithSeveralOfA_104 (by decide) ?_
        refine lv_iadd hx hb dX8_stepWithSeveralOfA_105 ?_
        refine lv_iload hx hb dX8_stepWithSeveralOfA_106 (lv_at hl 1 rfl) ?_
        refine lv_aload_n hx hb dX8_stepWithSeveralOfA_108 rfl (lv_at hl 2 rfl) ?_
        refine wr_get (C := RX8) (T := TX8) (N := 10) hx hb hts (in_X8_stepWithSeveralOfA_X8) hown hK hP (k := 206) (by decide) ((tX_Ways Z) _ _ _) rfl 6 (by decide) (hts (.fieldLink RX8 71 "TuneSearch$Ways" "lengthPrice" "I") (by decide +kernel)) (fun _ h9 => h9) rfl dX8_stepWithSeveralOfA_109 ?_
        refine lv_iload hx hb dX8_stepWithSeveralOfA_112 (lv_at hl 0 rfl) ?_
        refine va_mabs hx hb (by rw [hml]; exact hl.1.symm) hown (hts (.methodLink RX8 95 Lib.Math.abs.name) (by decide +kernel)) (hts (.static Lib.Math.abs.name) (by decide +kernel)) (hts (.initialized "java/lang/Math") (by decide +kernel)) (hts (.code Lib.Math.abs.name Lib.Math.abs.code 1 (some .int)) (by decide +kernel)) (Nat.le_of_ble_eq_true rfl) (Nat.le_of_ble_eq_true rfl) (Nat.le_of_ble_eq_true rfl) (Nat.le_of_ble_eq_true rfl) dX8_stepWithSeveralOfA_114 ?_
        refine lv_topi (fun v27 e28 => ?_)
        have h := lS_u h e28
        refine lv_imul hx hb dX8_stepWithSeveralOfA_117 ?_
        refine lv_iadd hx hb dX8_stepWithSeveralOfA_118 ?_
        obtain ⟨v29, σ30, hm31, h⟩ := bi_e h
        refine xr_callv (res := (v29, σ30)) (va_runV (As := [.int (l8 + 1), .int (l4 + 1), .int (v22 + ((σ.1 206 6) * v27))]) (rest := []) ⟨hx, hb, hml, hown, hts⟩ (k_X8_offer l Z   σ (l8 + 1) (l4 + 1) (v22 + ((σ.1 206 6) * v27)) hm31) (cwV 3 hts gX8_stepWithSeveralOfA_X8_offer rfl rfl rfl (by decide +kernel) ⟨Nat.le_of_ble_eq_true rfl, Nat.le_of_ble_eq_true rfl⟩) ⟨wx_blind, wr_recv hK hP (k := 206) (by decide) ((tX_Ways Z) _ _ _) rfl, fun U hU hW => ⟨rfl, wx_at hE hJ hP hK hS hU hW⟩⟩ rfl rfl hl.1 rfl (lv_room (Nat.le_of_ble_eq_true rfl)) dX8_stepWithSeveralOfA_119 ⟨Nat.le_of_ble_eq_true rfl, Nat.le_of_ble_eq_true rfl⟩) hS (fun H locs hP hS => ?_)
        have hP : ws_P (zD Z) vwCl 211 (za Z) (tX Z) σ30 H := hP
        obtain ⟨v32, e33, h⟩ := lS_e h
        refine lv_iinc (v := v32) (lv' := [(8, .int v32), (6, .int v25), (5, .int v22), (0, .ref (za Z 206)), (1, .ref (za Z (156 + r0))), (4, .int l4), (7, .int l7)]) hx hb dX8_stepWithSeveralOfA_122 hl (k := 6) rfl (by rw [e33]; rfl) (by decide) rfl (fun ls hl => ?_)
        refine lv_goto (tgt := 54) hx hb dX8_stepWithSeveralOfA_125 (by decide) ?_
        exact hc54 σ30 l4 v22 v25 l7 v32 h H locs hP hS ls (lv_sub hl [3, 4, 5, 2, 1, 6, 0] rfl)
def m_X8_stepWithSeveralOfA_0  (r0 : Nat) (r1 : Nat)  (σ : SG) (p2 : Int32) (p3 : Int32) : Option (Unit × SG) :=
  gB (inB p2 25) (gB (inB p3 25) (gB (inB p2 24) (gB (inB p3 24) (lS ((σ.1 (41 + p2.toNatClampNeg) p3.toNatClampNeg) + (σ.1 (66 + p2.toNatClampNeg) p3.toNatClampNeg)) (fun v7 => gB (inB p3 (lenX (2 * r1 + 1))) (gB (inB p2 (lenX (2 * r0 + 1))) (lS ((σ.1 (2 * r1 + 1) p3.toNatClampNeg) - (σ.1 (2 * r0 + 1) p2.toNatClampNeg)) (fun v11 => lS (if (p2 + 4) < (σ.1 (156 + r0) 2) then (p2 + 4) else (σ.1 (156 + r0) 2)) (fun v13 => lS (p2 + 1) (fun v15 => m_X8_stepWithSeveralOfA_54  r0 r1  FV σ p3 v7 v11 v13 v15))))))))))
set_option maxHeartbeats 4000000 in
set_option maxRecDepth 100000 in
theorem kb_X8_stepWithSeveralOfA_0 {p : Program} {l : Launch} {e : Env} {s : State} {m : MethodId} {args : Array Value} {below : List Frame} {meth : Method} {c : Code} {E : EF} (Z : ZT)  (r0 : Nat) (r1 : Nat) (hr0 : r0 < 9) (hr1 : r1 < 9) (C : cy p s m args meth c cX8_stepWithSeveralOfA none 9 RX8 wsX8_stepWithSeveralOfA E (zD Z) vwCl 211 (za Z) (tysX Z)) {res : Unit × SG}   : ∀ (σ : SG) (p2 : Int32) (p3 : Int32) , m_X8_stepWithSeveralOfA_0  r0 r1  σ p2 p3 = some res → ∀ (H : Heap) (locs : List Loc), ws_P (zD Z) vwCl 211 (za Z) (tX Z) σ H → va_S (ws_A 211 (za Z)) s.heap H locs → ∀ (ls : Array Slot), lv_has ls 9 [(0, .ref (za Z 206)), (1, .ref (za Z (156 + r0))), (2, .ref (za Z (156 + r1))), (3, .int p2), (4, .int p3)] → W p l e rm_X8_stepWithSeveralOfA s m args below meth c H locs 0 0 (MQ below (xQv E (zD Z) vwCl 211 (za Z) (tX Z) (tysX Z) res) args s 0 0 (ws_A 211 (za Z))) (F0 m 0 ls []) := by
  have C0 := C
  obtain ⟨hx, hb, hr, hlocks, hml, hown, hts, hE, hJ, hK⟩ := C0
  intro σ p2 p3  h H locs hP hS ls hl
  unfold m_X8_stepWithSeveralOfA_0 at h
  refine lv_aload_n hx hb dX8_stepWithSeveralOfA_0 rfl (lv_at hl 0 rfl) ?_
  refine wr_get (C := RX8) (T := TX8) (N := 10) hx hb hts (in_X8_stepWithSeveralOfA_X8) hown hK hP (k := 206) (by decide) ((tX_Ways Z) _ _ _) rfl 0 (by decide) (hts (.fieldLink RX8 13 "TuneSearch$Ways" "cells" "[[I") (by decide +kernel)) (fun _ h9 => h9) rfl dX8_stepWithSeveralOfA_1 ?_
  refine lv_iload_n hx hb dX8_stepWithSeveralOfA_4 rfl (lv_at hl 3 rfl) ?_
  obtain ⟨b1, h⟩ := gB_e h
  have hi2 := inB_lt b1
  refine wr_aald hx hb hK hP (k := 150) (by decide) 5 rfl ((tX_cellsO Z) _ _ _) rfl b1 (row_at hi2) dX8_stepWithSeveralOfA_5 ?_
  refine lv_iload hx hb dX8_stepWithSeveralOfA_6 (lv_at hl 4 rfl) ?_
  obtain ⟨b3, h⟩ := gB_e h
  refine wr_iald hx hb hK hP (k := (41 + p2.toNatClampNeg)) (by omega) 0 ((tX_cells Z p2.toNatClampNeg hi2) _ _ _) rfl b3 dX8_stepWithSeveralOfA_8 ?_
  refine lv_aload_n hx hb dX8_stepWithSeveralOfA_9 rfl (lv_at hl 0 rfl) ?_
  refine wr_get (C := RX8) (T := TX8) (N := 10) hx hb hts (in_X8_stepWithSeveralOfA_X8) hown hK hP (k := 206) (by decide) ((tX_Ways Z) _ _ _) rfl 1 (by decide) (hts (.fieldLink RX8 18 "TuneSearch$Ways" "pairs" "[[I") (by decide +kernel)) (fun _ h9 => h9) rfl dX8_stepWithSeveralOfA_10 ?_
  refine lv_iload_n hx hb dX8_stepWithSeveralOfA_13 rfl (lv_at hl 3 rfl) ?_
  obtain ⟨b4, h⟩ := gB_e h
  have hi5 := inB_lt b4
  refine wr_aald hx hb hK hP (k := 151) (by decide) 5 rfl ((tX_pairsO Z) _ _ _) rfl b4 (row_at hi5) dX8_stepWithSeveralOfA_14 ?_
  refine lv_iload hx hb dX8_stepWithSeveralOfA_15 (lv_at hl 4 rfl) ?_
  obtain ⟨b6, h⟩ := gB_e h
  refine wr_iald hx hb hK hP (k := (66 + p2.toNatClampNeg)) (by omega) 0 ((tX_pairs Z p2.toNatClampNeg hi5) _ _ _) rfl b6 dX8_stepWithSeveralOfA_17 ?_
  refine lv_iadd hx hb dX8_stepWithSeveralOfA_18 ?_
  refine lv_topi (fun v7 e8 => ?_)
  have h := lS_u h e8
  refine lv_istore (lv' := [(5, .int v7), (0, .ref (za Z 206)), (1, .ref (za Z (156 + r0))), (2, .ref (za Z (156 + r1))), (3, .int p2), (4, .int p3)]) hx hb dX8_stepWithSeveralOfA_19 hl (by decide) rfl (fun ls hl => ?_)
  refine lv_aload_n hx hb dX8_stepWithSeveralOfA_21 rfl (lv_at hl 3 rfl) ?_
  refine wr_get (C := RX4) (T := TX4) (N := 3) hx hb hts (in_X8_stepWithSeveralOfA_X4) hown hK hP (k := (156 + r1)) (by omega) ((tX_NoteRow Z r1 hr1) _ _ _) rfl 1 (by decide) (hts (.fieldLink RX8 99 "TuneSearch$NoteRow" "lengths" "[I") (by decide +kernel)) (fun _ h9 => h9) rfl dX8_stepWithSeveralOfA_22 ?_
  refine lv_iload hx hb dX8_stepWithSeveralOfA_25 (lv_at hl 5 rfl) ?_
  obtain ⟨b9, h⟩ := gB_e h
  refine wr_iald hx hb hK hP (k := (2 * r1 + 1)) (by omega) 0 ((tX_I Z (2 * r1 + 1) (by omega)) _ _ _) rfl b9 dX8_stepWithSeveralOfA_27 ?_
  refine lv_aload_n hx hb dX8_stepWithSeveralOfA_28 rfl (lv_at hl 2 rfl) ?_
  refine wr_get (C := RX4) (T := TX4) (N := 3) hx hb hts (in_X8_stepWithSeveralOfA_X4) hown hK hP (k := (156 + r0)) (by omega) ((tX_NoteRow Z r0 hr0) _ _ _) rfl 1 (by decide) (hts (.fieldLink RX8 99 "TuneSearch$NoteRow" "lengths" "[I") (by decide +kernel)) (fun _ h9 => h9) rfl dX8_stepWithSeveralOfA_29 ?_
  refine lv_iload_n hx hb dX8_stepWithSeveralOfA_32 rfl (lv_at hl 4 rfl) ?_
  obtain ⟨b10, h⟩ := gB_e h
  refine wr_iald hx hb hK hP (k := (2 * r0 + 1)) (by omega) 0 ((tX_I Z (2 * r0 + 1) (by omega)) _ _ _) rfl b10 dX8_stepWithSeveralOfA_33 ?_
  refine lv_isub hx hb dX8_stepWithSeveralOfA_34 ?_
  refine lv_topi (fun v11 e12 => ?_)
  have h := lS_u h e12
  refine lv_istore (lv' := [(6, .int v11), (5, .int v7), (0, .ref (za Z 206)), (1, .ref (za Z (156 + r0))), (2, .ref (za Z (156 + r1))), (3, .int p2), (4, .int p3)]) hx hb dX8_stepWithSeveralOfA_35 hl (by decide) rfl (fun ls hl => ?_)
  refine lv_aload_n hx hb dX8_stepWithSeveralOfA_37 rfl (lv_at hl 3 rfl) ?_
  refine wr_get (C := RX4) (T := TX4) (N := 3) hx hb hts (in_X8_stepWithSeveralOfA_X4) hown hK hP (k := (156 + r0)) (by omega) ((tX_NoteRow Z r0 hr0) _ _ _) rfl 2 (by decide) (hts (.fieldLink RX8 40 "TuneSearch$NoteRow" "count" "I") (by decide +kernel)) (fun _ h9 => h9) rfl dX8_stepWithSeveralOfA_38 ?_
  refine lv_iload_n hx hb dX8_stepWithSeveralOfA_41 rfl (lv_at hl 5 rfl) ?_
  refine lv_iconst (v := 4) hx hb dX8_stepWithSeveralOfA_42 (by decide) ?_
  refine lv_iadd hx hb dX8_stepWithSeveralOfA_43 ?_
  refine va_mmin hx hb (by rw [hml]; exact hl.1.symm) hown (hts (.methodLink RX8 50 Lib.Math.min.name) (by decide +kernel)) (hts (.static Lib.Math.min.name) (by decide +kernel)) (hts (.initialized "java/lang/Math") (by decide +kernel)) (hts (.code Lib.Math.min.name Lib.Math.min.code 2 (some .int)) (by decide +kernel)) (Nat.le_of_ble_eq_true rfl) (Nat.le_of_ble_eq_true rfl) (Nat.le_of_ble_eq_true rfl) (Nat.le_of_ble_eq_true rfl) dX8_stepWithSeveralOfA_44 ?_
  refine lv_topi (fun v13 e14 => ?_)
  have h := lS_u h e14
  refine lv_istore (lv' := [(7, .int v13), (6, .int v11), (5, .int v7), (0, .ref (za Z 206)), (1, .ref (za Z (156 + r0))), (2, .ref (za Z (156 + r1))), (3, .int p2), (4, .int p3)]) hx hb dX8_stepWithSeveralOfA_47 hl (by decide) rfl (fun ls hl => ?_)
  refine lv_iload_n hx hb dX8_stepWithSeveralOfA_49 rfl (lv_at hl 6 rfl) ?_
  refine lv_iconst (v := 1) hx hb dX8_stepWithSeveralOfA_50 (by decide) ?_
  refine lv_iadd hx hb dX8_stepWithSeveralOfA_51 ?_
  refine lv_topi (fun v15 e16 => ?_)
  have h := lS_u h e16
  refine lv_istore (lv' := [(8, .int v15), (7, .int v13), (6, .int v11), (5, .int v7), (0, .ref (za Z 206)), (1, .ref (za Z (156 + r0))), (2, .ref (za Z (156 + r1))), (3, .int p2), (4, .int p3)]) hx hb dX8_stepWithSeveralOfA_52 hl (by decide) rfl (fun ls hl => ?_)
  exact kb_X8_stepWithSeveralOfA_54 Z  r0 r1 hr0 hr1 C   FV σ p3 v7 v11 v13 v15 h H locs hP hS ls (lv_sub hl [4, 5, 8, 3, 2, 1, 0] rfl)
def m_X8_stepWithSeveralOfA  (r0 : Nat) (r1 : Nat) (σ : SG) (p2 : Int32) (p3 : Int32) : Option (Unit × SG) := m_X8_stepWithSeveralOfA_0  r0 r1 σ p2 p3
set_option maxHeartbeats 4000000 in
set_option maxRecDepth 100000 in
theorem k_X8_stepWithSeveralOfA (l : Launch) {E : EF} (Z : ZT)  (r0 : Nat) (r1 : Nat) (hr0 : r0 < 9) (hr1 : r1 < 9) (σ : SG) (p2 : Int32) (p3 : Int32) {res : Unit × SG} (h : m_X8_stepWithSeveralOfA  r0 r1 σ p2 p3 = some res) : Met l yX8_stepWithSeveralOfA wsX8_stepWithSeveralOfA rm_X8_stepWithSeveralOfA (va_Pc [.ref (za Z 206), .ref (za Z (156 + r0)), .ref (za Z (156 + r1)), .int p2, .int p3] (wx E (zD Z) vwCl 211 (za Z) (tX Z) (tysX Z) σ)) (xQv E (zD Z) vwCl 211 (za Z) (tX Z) (tysX Z) res) 0 0 (ws_A 211 (za Z)) := by
  refine Met.ofW (cc := cX8_stepWithSeveralOfA) (maxL := 9) (ret := none) (by decide) rfl ?_
  intro p e s m args below meth c s₁ B hml hv
  obtain ⟨rfl, hE, hJ, hP, hK⟩ := hv
  have hl := lv_entry ([.ref (za Z 206), .ref (za Z (156 + r0)), .ref (za Z (156 + r1)), .int p2, .int p3]) (n := 9) (Nat.le_of_ble_eq_true rfl)
  rw [lg_entry_eq]
  generalize (lg_sl ([.ref (za Z 206), .ref (za Z (156 + r0)), .ref (za Z (156 + r1)), .int p2, .int p3]) ++ List.replicate (9 - (lg_sl ([.ref (za Z 206), .ref (za Z (156 + r0)), .ref (za Z (156 + r1)), .int p2, .int p3])).length) Slot.unset).toArray = ls at hl ⊢
  exact kb_X8_stepWithSeveralOfA_0 Z  r0 r1 hr0 hr1 ⟨B.exec, B.bytes, B.returns, B.notSynchronized, hml, findClass_of_methodNamed B.named, atoms_spec (ws := wsX8_stepWithSeveralOfA) B.pre, hE, hJ, hK⟩ σ p2 p3 h s.heap [] hP va_S.rf ls hl
/-! TuneSearch$Ways.stepOn(LTuneSearch$NoteRow;LTuneSearch$NoteRow;II)V -/
abbrev rm_X8_stepOn : Room := { frames := 2, cells := 0, slots := 0, locals := 52 }
theorem in_X8_stepOn_X4 : ∀ w ∈ wsX40, w ∈ wsX8_stepOn := by decide +kernel
theorem in_X8_stepOn_X8 : ∀ w ∈ wsX80, w ∈ wsX8_stepOn := by decide +kernel
def m_X8_stepOn_99  (r0 : Nat) (r1 : Nat)  (σ : SG) (l3 : Int32) (l4 : Int32) (l6 : Int32) (l7 : Int32) : Option (Unit × SG) :=
  if l6 = 0 then (some ((), σ)) else (if l7 = 0 then (some ((), σ)) else (bi (m_X8_stepWithSeveralOfB r0 r1 σ l3 l4) (fun v20 σ21 => bi (m_X8_stepWithSeveralOfA r0 r1 σ21 l3 l4) (fun v23 σ24 => some ((), σ24)))))
set_option maxHeartbeats 4000000 in
set_option maxRecDepth 100000 in
theorem kb_X8_stepOn_99 {p : Program} {l : Launch} {e : Env} {s : State} {m : MethodId} {args : Array Value} {below : List Frame} {meth : Method} {c : Code} {E : EF} (Z : ZT)  (r0 : Nat) (r1 : Nat) (hr0 : r0 < 9) (hr1 : r1 < 9) (C : cy p s m args meth c cX8_stepOn none 8 RX8 wsX8_stepOn E (zD Z) vwCl 211 (za Z) (tysX Z)) {res : Unit × SG}   : ∀ (σ : SG) (l3 : Int32) (l4 : Int32) (l6 : Int32) (l7 : Int32) , m_X8_stepOn_99  r0 r1  σ l3 l4 l6 l7 = some res → ∀ (H : Heap) (locs : List Loc), ws_P (zD Z) vwCl 211 (za Z) (tX Z) σ H → va_S (ws_A 211 (za Z)) s.heap H locs → ∀ (ls : Array Slot), lv_has ls 8 [(0, .ref (za Z 206)), (1, .ref (za Z (156 + r0))), (2, .ref (za Z (156 + r1))), (3, .int l3), (4, .int l4), (6, .int l6), (7, .int l7)] → W p l e rm_X8_stepOn s m args below meth c H locs 0 0 (MQ below (xQv E (zD Z) vwCl 211 (za Z) (tX Z) (tysX Z) res) args s 0 0 (ws_A 211 (za Z))) (F0 m 99 ls []) := by
  have C0 := C
  obtain ⟨hx, hb, hr, hlocks, hml, hown, hts, hE, hJ, hK⟩ := C0
  intro σ l3 l4 l6 l7  h H locs hP hS ls hl
  unfold m_X8_stepOn_99 at h
  refine lv_iload hx hb dX8_stepOn_99 (lv_at hl 5 rfl) ?_
  refine lv_if_eq (tgt := 127) hx hb dX8_stepOn_101 (by decide) (fun q18 => ?_) (fun q18 => ?_)
  · have h := if_p h q18
    exact xr_vret hx hb hr hlocks hE hJ hK hP hS h dX8_stepOn_127
  · have h := if_n h q18
    refine lv_iload hx hb dX8_stepOn_104 (lv_at hl 6 rfl) ?_
    refine lv_if_eq (tgt := 127) hx hb dX8_stepOn_106 (by decide) (fun q19 => ?_) (fun q19 => ?_)
    · have h := if_p h q19
      exact xr_vret hx hb hr hlocks hE hJ hK hP hS h dX8_stepOn_127
    · have h := if_n h q19
      refine lv_aload_n hx hb dX8_stepOn_109 rfl (lv_at hl 0 rfl) ?_
      refine lv_aload_n hx hb dX8_stepOn_110 rfl (lv_at hl 1 rfl) ?_
      refine lv_aload_n hx hb dX8_stepOn_111 rfl (lv_at hl 2 rfl) ?_
      refine lv_iload_n hx hb dX8_stepOn_112 rfl (lv_at hl 3 rfl) ?_
      refine lv_iload hx hb dX8_stepOn_113 (lv_at hl 4 rfl) ?_
      obtain ⟨v20, σ21, hm22, h⟩ := bi_e h
      refine xr_callv (res := (v20, σ21)) (va_runV (As := [.ref (za Z (156 + r0)), .ref (za Z (156 + r1)), .int l3, .int l4]) (rest := []) ⟨hx, hb, hml, hown, hts⟩ (k_X8_stepWithSeveralOfB l Z r0 r1 hr0 hr1 σ l3 l4 hm22) (cwV 4 hts gX8_stepOn_X8_stepWithSeveralOfB rfl rfl rfl (by decide +kernel) ⟨Nat.le_of_ble_eq_true rfl, Nat.le_of_ble_eq_true rfl⟩) ⟨wx_blind, wr_recv hK hP (k := 206) (by decide) ((tX_Ways Z) _ _ _) rfl, fun U hU hW => ⟨rfl, wx_at hE hJ hP hK hS hU hW⟩⟩ rfl rfl hl.1 rfl (lv_room (Nat.le_of_ble_eq_true rfl)) dX8_stepOn_115 ⟨Nat.le_of_ble_eq_true rfl, Nat.le_of_ble_eq_true rfl⟩) hS (fun H locs hP hS => ?_)
      have hP : ws_P (zD Z) vwCl 211 (za Z) (tX Z) σ21 H := hP
      refine lv_aload_n hx hb dX8_stepOn_118 rfl (lv_at hl 0 rfl) ?_
      refine lv_aload_n hx hb dX8_stepOn_119 rfl (lv_at hl 1 rfl) ?_
      refine lv_aload_n hx hb dX8_stepOn_120 rfl (lv_at hl 2 rfl) ?_
      refine lv_iload_n hx hb dX8_stepOn_121 rfl (lv_at hl 3 rfl) ?_
      refine lv_iload hx hb dX8_stepOn_122 (lv_at hl 4 rfl) ?_
      obtain ⟨v23, σ24, hm25, h⟩ := bi_e h
      refine xr_callv (res := (v23, σ24)) (va_runV (As := [.ref (za Z (156 + r0)), .ref (za Z (156 + r1)), .int l3, .int l4]) (rest := []) ⟨hx, hb, hml, hown, hts⟩ (k_X8_stepWithSeveralOfA l Z r0 r1 hr0 hr1 σ21 l3 l4 hm25) (cwV 4 hts gX8_stepOn_X8_stepWithSeveralOfA rfl rfl rfl (by decide +kernel) ⟨Nat.le_of_ble_eq_true rfl, Nat.le_of_ble_eq_true rfl⟩) ⟨wx_blind, wr_recv hK hP (k := 206) (by decide) ((tX_Ways Z) _ _ _) rfl, fun U hU hW => ⟨rfl, wx_at hE hJ hP hK hS hU hW⟩⟩ rfl rfl hl.1 rfl (lv_room (Nat.le_of_ble_eq_true rfl)) dX8_stepOn_124 ⟨Nat.le_of_ble_eq_true rfl, Nat.le_of_ble_eq_true rfl⟩) hS (fun H locs hP hS => ?_)
      have hP : ws_P (zD Z) vwCl 211 (za Z) (tX Z) σ24 H := hP
      exact xr_vret hx hb hr hlocks hE hJ hK hP hS h dX8_stepOn_127
def m_X8_stepOn_70  (r0 : Nat) (r1 : Nat)  (σ : SG) (l3 : Int32) (l4 : Int32) (l5 : Int32) (l6 : Int32) (l7 : Int32) : Option (Unit × SG) :=
  if l7 = 0 then (m_X8_stepOn_99  r0 r1  σ l3 l4 l6 l7) else (gB (inB l4 (lenX (2 * r1 + 1))) (bi (m_X8_offer  σ l3 (l4 + 1) (l5 + ((σ.1 206 8) * (σ.1 (2 * r1 + 1) l4.toNatClampNeg)))) (fun v15 σ16 => m_X8_stepOn_99  r0 r1  σ16 l3 l4 l6 l7)))
set_option maxHeartbeats 4000000 in
set_option maxRecDepth 100000 in
theorem kb_X8_stepOn_70 {p : Program} {l : Launch} {e : Env} {s : State} {m : MethodId} {args : Array Value} {below : List Frame} {meth : Method} {c : Code} {E : EF} (Z : ZT)  (r0 : Nat) (r1 : Nat) (hr0 : r0 < 9) (hr1 : r1 < 9) (C : cy p s m args meth c cX8_stepOn none 8 RX8 wsX8_stepOn E (zD Z) vwCl 211 (za Z) (tysX Z)) {res : Unit × SG}   : ∀ (σ : SG) (l3 : Int32) (l4 : Int32) (l5 : Int32) (l6 : Int32) (l7 : Int32) , m_X8_stepOn_70  r0 r1  σ l3 l4 l5 l6 l7 = some res → ∀ (H : Heap) (locs : List Loc), ws_P (zD Z) vwCl 211 (za Z) (tX Z) σ H → va_S (ws_A 211 (za Z)) s.heap H locs → ∀ (ls : Array Slot), lv_has ls 8 [(0, .ref (za Z 206)), (1, .ref (za Z (156 + r0))), (2, .ref (za Z (156 + r1))), (3, .int l3), (4, .int l4), (5, .int l5), (6, .int l6), (7, .int l7)] → W p l e rm_X8_stepOn s m args below meth c H locs 0 0 (MQ below (xQv E (zD Z) vwCl 211 (za Z) (tX Z) (tysX Z) res) args s 0 0 (ws_A 211 (za Z))) (F0 m 70 ls []) := by
  have C0 := C
  obtain ⟨hx, hb, hr, hlocks, hml, hown, hts, hE, hJ, hK⟩ := C0
  intro σ l3 l4 l5 l6 l7  h H locs hP hS ls hl
  unfold m_X8_stepOn_70 at h
  refine lv_iload hx hb dX8_stepOn_70 (lv_at hl 7 rfl) ?_
  refine lv_if_eq (tgt := 99) hx hb dX8_stepOn_72 (by decide) (fun q13 => ?_) (fun q13 => ?_)
  · have h := if_p h q13
    exact kb_X8_stepOn_99 Z  r0 r1 hr0 hr1 C   σ l3 l4 l6 l7 h H locs hP hS ls (lv_sub hl [0, 1, 2, 3, 4, 6, 7] rfl)
  · have h := if_n h q13
    refine lv_aload_n hx hb dX8_stepOn_75 rfl (lv_at hl 0 rfl) ?_
    refine lv_iload_n hx hb dX8_stepOn_76 rfl (lv_at hl 3 rfl) ?_
    refine lv_iload hx hb dX8_stepOn_77 (lv_at hl 4 rfl) ?_
    refine lv_iconst (v := 1) hx hb dX8_stepOn_79 (by decide) ?_
    refine lv_iadd hx hb dX8_stepOn_80 ?_
    refine lv_iload hx hb dX8_stepOn_81 (lv_at hl 5 rfl) ?_
    refine lv_aload_n hx hb dX8_stepOn_83 rfl (lv_at hl 0 rfl) ?_
    refine wr_get (C := RX8) (T := TX8) (N := 10) hx hb hts (in_X8_stepOn_X8) hown hK hP (k := 206) (by decide) ((tX_Ways Z) _ _ _) rfl 8 (by decide) (hts (.fieldLink RX8 77 "TuneSearch$Ways" "secondAlone" "I") (by decide +kernel)) (fun _ h9 => h9) rfl dX8_stepOn_84 ?_
    refine lv_aload_n hx hb dX8_stepOn_87 rfl (lv_at hl 2 rfl) ?_
    refine wr_get (C := RX4) (T := TX4) (N := 3) hx hb hts (in_X8_stepOn_X4) hown hK hP (k := (156 + r1)) (by omega) ((tX_NoteRow Z r1 hr1) _ _ _) rfl 1 (by decide) (hts (.fieldLink RX8 99 "TuneSearch$NoteRow" "lengths" "[I") (by decide +kernel)) (fun _ h9 => h9) rfl dX8_stepOn_88 ?_
    refine lv_iload hx hb dX8_stepOn_91 (lv_at hl 4 rfl) ?_
    obtain ⟨b14, h⟩ := gB_e h
    refine wr_iald hx hb hK hP (k := (2 * r1 + 1)) (by omega) 0 ((tX_I Z (2 * r1 + 1) (by omega)) _ _ _) rfl b14 dX8_stepOn_93 ?_
    refine lv_imul hx hb dX8_stepOn_94 ?_
    refine lv_iadd hx hb dX8_stepOn_95 ?_
    obtain ⟨v15, σ16, hm17, h⟩ := bi_e h
    refine xr_callv (res := (v15, σ16)) (va_runV (As := [.int l3, .int (l4 + 1), .int (l5 + ((σ.1 206 8) * (σ.1 (2 * r1 + 1) l4.toNatClampNeg)))]) (rest := []) ⟨hx, hb, hml, hown, hts⟩ (k_X8_offer l Z   σ l3 (l4 + 1) (l5 + ((σ.1 206 8) * (σ.1 (2 * r1 + 1) l4.toNatClampNeg))) hm17) (cwV 3 hts gX8_stepOn_X8_offer rfl rfl rfl (by decide +kernel) ⟨Nat.le_of_ble_eq_true rfl, Nat.le_of_ble_eq_true rfl⟩) ⟨wx_blind, wr_recv hK hP (k := 206) (by decide) ((tX_Ways Z) _ _ _) rfl, fun U hU hW => ⟨rfl, wx_at hE hJ hP hK hS hU hW⟩⟩ rfl rfl hl.1 rfl (lv_room (Nat.le_of_ble_eq_true rfl)) dX8_stepOn_96 ⟨Nat.le_of_ble_eq_true rfl, Nat.le_of_ble_eq_true rfl⟩) hS (fun H locs hP hS => ?_)
    have hP : ws_P (zD Z) vwCl 211 (za Z) (tX Z) σ16 H := hP
    exact kb_X8_stepOn_99 Z  r0 r1 hr0 hr1 C   σ16 l3 l4 l6 l7 h H locs hP hS ls (lv_sub hl [0, 1, 2, 3, 4, 6, 7] rfl)
def m_X8_stepOn_40  (r0 : Nat) (r1 : Nat)  (σ : SG) (l3 : Int32) (l4 : Int32) (l5 : Int32) (l6 : Int32) (s0 : Int32) : Option (Unit × SG) :=
  if l6 = 0 then (m_X8_stepOn_70  r0 r1  σ l3 l4 l5 l6 s0) else (gB (inB l3 (lenX (2 * r0 + 1))) (bi (m_X8_offer  σ (l3 + 1) l4 (l5 + ((σ.1 206 7) * (σ.1 (2 * r0 + 1) l3.toNatClampNeg)))) (fun v10 σ11 => m_X8_stepOn_70  r0 r1  σ11 l3 l4 l5 l6 s0)))
set_option maxHeartbeats 4000000 in
set_option maxRecDepth 100000 in
theorem kb_X8_stepOn_40 {p : Program} {l : Launch} {e : Env} {s : State} {m : MethodId} {args : Array Value} {below : List Frame} {meth : Method} {c : Code} {E : EF} (Z : ZT)  (r0 : Nat) (r1 : Nat) (hr0 : r0 < 9) (hr1 : r1 < 9) (C : cy p s m args meth c cX8_stepOn none 8 RX8 wsX8_stepOn E (zD Z) vwCl 211 (za Z) (tysX Z)) {res : Unit × SG}   : ∀ (σ : SG) (l3 : Int32) (l4 : Int32) (l5 : Int32) (l6 : Int32) (s0 : Int32) , m_X8_stepOn_40  r0 r1  σ l3 l4 l5 l6 s0 = some res → ∀ (H : Heap) (locs : List Loc), ws_P (zD Z) vwCl 211 (za Z) (tX Z) σ H → va_S (ws_A 211 (za Z)) s.heap H locs → ∀ (ls : Array Slot), lv_has ls 8 [(0, .ref (za Z 206)), (1, .ref (za Z (156 + r0))), (2, .ref (za Z (156 + r1))), (3, .int l3), (4, .int l4), (5, .int l5), (6, .int l6)] → W p l e rm_X8_stepOn s m args below meth c H locs 0 0 (MQ below (xQv E (zD Z) vwCl 211 (za Z) (tX Z) (tysX Z) res) args s 0 0 (ws_A 211 (za Z))) (F0 m 40 ls [.int s0]) := by
  have C0 := C
  obtain ⟨hx, hb, hr, hlocks, hml, hown, hts, hE, hJ, hK⟩ := C0
  intro σ l3 l4 l5 l6 s0  h H locs hP hS ls hl
  unfold m_X8_stepOn_40 at h
  refine lv_istore (lv' := [(7, .int s0), (0, .ref (za Z 206)), (1, .ref (za Z (156 + r0))), (2, .ref (za Z (156 + r1))), (3, .int l3), (4, .int l4), (5, .int l5), (6, .int l6)]) hx hb dX8_stepOn_40 hl (by decide) rfl (fun ls hl => ?_)
  refine lv_iload hx hb dX8_stepOn_42 (lv_at hl 7 rfl) ?_
  refine lv_if_eq (tgt := 70) hx hb dX8_stepOn_44 (by decide) (fun q8 => ?_) (fun q8 => ?_)
  · have h := if_p h q8
    exact kb_X8_stepOn_70 Z  r0 r1 hr0 hr1 C   σ l3 l4 l5 l6 s0 h H locs hP hS ls (lv_sub hl [1, 2, 3, 4, 5, 6, 7, 0] rfl)
  · have h := if_n h q8
    refine lv_aload_n hx hb dX8_stepOn_47 rfl (lv_at hl 1 rfl) ?_
    refine lv_iload_n hx hb dX8_stepOn_48 rfl (lv_at hl 4 rfl) ?_
    refine lv_iconst (v := 1) hx hb dX8_stepOn_49 (by decide) ?_
    refine lv_iadd hx hb dX8_stepOn_50 ?_
    refine lv_iload hx hb dX8_stepOn_51 (lv_at hl 5 rfl) ?_
    refine lv_iload hx hb dX8_stepOn_53 (lv_at hl 6 rfl) ?_
    refine lv_aload_n hx hb dX8_stepOn_55 rfl (lv_at hl 1 rfl) ?_
    refine wr_get (C := RX8) (T := TX8) (N := 10) hx hb hts (in_X8_stepOn_X8) hown hK hP (k := 206) (by decide) ((tX_Ways Z) _ _ _) rfl 7 (by decide) (hts (.fieldLink RX8 74 "TuneSearch$Ways" "firstAlone" "I") (by decide +kernel)) (fun _ h9 => h9) rfl dX8_stepOn_56 ?_
    refine lv_aload_n hx hb dX8_stepOn_59 rfl (lv_at hl 2 rfl) ?_
    refine wr_get (C := RX4) (T := TX4) (N := 3) hx hb hts (in_X8_stepOn_X4) hown hK hP (k := (156 + r0)) (by omega) ((tX_NoteRow Z r0 hr0) _ _ _) rfl 1 (by decide) (hts (.fieldLink RX8 99 "TuneSearch$NoteRow" "lengths" "[I") (by decide +kernel)) (fun _ h9 => h9) rfl dX8_stepOn_60 ?_
    refine lv_iload_n hx hb dX8_stepOn_63 rfl (lv_at hl 4 rfl) ?_
    obtain ⟨b9, h⟩ := gB_e h
    refine wr_iald hx hb hK hP (k := (2 * r0 + 1)) (by omega) 0 ((tX_I Z (2 * r0 + 1) (by omega)) _ _ _) rfl b9 dX8_stepOn_64 ?_
    refine lv_imul hx hb dX8_stepOn_65 ?_
    refine lv_iadd hx hb dX8_stepOn_66 ?_
    obtain ⟨v10, σ11, hm12, h⟩ := bi_e h
    refine xr_callv (res := (v10, σ11)) (va_runV (As := [.int (l3 + 1), .int l4, .int (l5 + ((σ.1 206 7) * (σ.1 (2 * r0 + 1) l3.toNatClampNeg)))]) (rest := []) ⟨hx, hb, hml, hown, hts⟩ (k_X8_offer l Z   σ (l3 + 1) l4 (l5 + ((σ.1 206 7) * (σ.1 (2 * r0 + 1) l3.toNatClampNeg))) hm12) (cwV 3 hts gX8_stepOn_X8_offer rfl rfl rfl (by decide +kernel) ⟨Nat.le_of_ble_eq_true rfl, Nat.le_of_ble_eq_true rfl⟩) ⟨wx_blind, wr_recv hK hP (k := 206) (by decide) ((tX_Ways Z) _ _ _) rfl, fun U hU hW => ⟨rfl, wx_at hE hJ hP hK hS hU hW⟩⟩ rfl rfl hl.1 rfl (lv_room (Nat.le_of_ble_eq_true rfl)) dX8_stepOn_67 ⟨Nat.le_of_ble_eq_true rfl, Nat.le_of_ble_eq_true rfl⟩) hS (fun H locs hP hS => ?_)
    have hP : ws_P (zD Z) vwCl 211 (za Z) (tX Z) σ11 H := hP
    exact kb_X8_stepOn_70 Z  r0 r1 hr0 hr1 C   σ11 l3 l4 l5 l6 s0 h H locs hP hS ls (lv_sub hl [1, 2, 3, 4, 5, 6, 7, 0] rfl)
def m_X8_stepOn_24  (r0 : Nat) (r1 : Nat)  (σ : SG) (l3 : Int32) (l4 : Int32) (l5 : Int32) (s0 : Int32) : Option (Unit × SG) :=
  if (σ.1 (156 + r1) 2) ≤ l4 then (m_X8_stepOn_40  r0 r1  σ l3 l4 l5 s0 0) else (m_X8_stepOn_40  r0 r1  σ l3 l4 l5 s0 1)
set_option maxHeartbeats 4000000 in
set_option maxRecDepth 100000 in
theorem kb_X8_stepOn_24 {p : Program} {l : Launch} {e : Env} {s : State} {m : MethodId} {args : Array Value} {below : List Frame} {meth : Method} {c : Code} {E : EF} (Z : ZT)  (r0 : Nat) (r1 : Nat) (hr0 : r0 < 9) (hr1 : r1 < 9) (C : cy p s m args meth c cX8_stepOn none 8 RX8 wsX8_stepOn E (zD Z) vwCl 211 (za Z) (tysX Z)) {res : Unit × SG}   : ∀ (σ : SG) (l3 : Int32) (l4 : Int32) (l5 : Int32) (s0 : Int32) , m_X8_stepOn_24  r0 r1  σ l3 l4 l5 s0 = some res → ∀ (H : Heap) (locs : List Loc), ws_P (zD Z) vwCl 211 (za Z) (tX Z) σ H → va_S (ws_A 211 (za Z)) s.heap H locs → ∀ (ls : Array Slot), lv_has ls 8 [(0, .ref (za Z 206)), (1, .ref (za Z (156 + r0))), (2, .ref (za Z (156 + r1))), (3, .int l3), (4, .int l4), (5, .int l5)] → W p l e rm_X8_stepOn s m args below meth c H locs 0 0 (MQ below (xQv E (zD Z) vwCl 211 (za Z) (tX Z) (tysX Z) res) args s 0 0 (ws_A 211 (za Z))) (F0 m 24 ls [.int s0]) := by
  have C0 := C
  obtain ⟨hx, hb, hr, hlocks, hml, hown, hts, hE, hJ, hK⟩ := C0
  intro σ l3 l4 l5 s0  h H locs hP hS ls hl
  unfold m_X8_stepOn_24 at h
  refine lv_istore (lv' := [(6, .int s0), (0, .ref (za Z 206)), (1, .ref (za Z (156 + r0))), (2, .ref (za Z (156 + r1))), (3, .int l3), (4, .int l4), (5, .int l5)]) hx hb dX8_stepOn_24 hl (by decide) rfl (fun ls hl => ?_)
  refine lv_iload hx hb dX8_stepOn_26 (lv_at hl 5 rfl) ?_
  refine lv_aload_n hx hb dX8_stepOn_28 rfl (lv_at hl 3 rfl) ?_
  refine wr_get (C := RX4) (T := TX4) (N := 3) hx hb hts (in_X8_stepOn_X4) hown hK hP (k := (156 + r1)) (by omega) ((tX_NoteRow Z r1 hr1) _ _ _) rfl 2 (by decide) (hts (.fieldLink RX8 40 "TuneSearch$NoteRow" "count" "I") (by decide +kernel)) (fun _ h9 => h9) rfl dX8_stepOn_29 ?_
  refine lv_icmp_ge (tgt := 39) hx hb dX8_stepOn_32 (by decide) (fun q7 => ?_) (fun q7 => ?_)
  · have h := if_p h q7
    refine lv_iconst (v := 0) hx hb dX8_stepOn_39 (by decide) ?_
    exact kb_X8_stepOn_40 Z  r0 r1 hr0 hr1 C   σ l3 l4 l5 s0 0 h H locs hP hS ls (lv_sub hl [1, 2, 3, 4, 5, 6, 0] rfl)
  · have h := if_n h q7
    refine lv_iconst (v := 1) hx hb dX8_stepOn_35 (by decide) ?_
    refine lv_goto (tgt := 40) hx hb dX8_stepOn_36 (by decide) ?_
    exact kb_X8_stepOn_40 Z  r0 r1 hr0 hr1 C   σ l3 l4 l5 s0 1 h H locs hP hS ls (lv_sub hl [1, 2, 3, 4, 5, 6, 0] rfl)
def m_X8_stepOn_0  (r0 : Nat) (r1 : Nat)  (σ : SG) (p2 : Int32) (p3 : Int32) : Option (Unit × SG) :=
  gB (inB p2 25) (gB (inB p3 25) (lS (σ.1 (41 + p2.toNatClampNeg) p3.toNatClampNeg) (fun v4 => if (σ.1 (156 + r0) 2) ≤ p2 then (m_X8_stepOn_24  r0 r1  σ p2 p3 v4 0) else (m_X8_stepOn_24  r0 r1  σ p2 p3 v4 1))))
set_option maxHeartbeats 4000000 in
set_option maxRecDepth 100000 in
theorem kb_X8_stepOn_0 {p : Program} {l : Launch} {e : Env} {s : State} {m : MethodId} {args : Array Value} {below : List Frame} {meth : Method} {c : Code} {E : EF} (Z : ZT)  (r0 : Nat) (r1 : Nat) (hr0 : r0 < 9) (hr1 : r1 < 9) (C : cy p s m args meth c cX8_stepOn none 8 RX8 wsX8_stepOn E (zD Z) vwCl 211 (za Z) (tysX Z)) {res : Unit × SG}   : ∀ (σ : SG) (p2 : Int32) (p3 : Int32) , m_X8_stepOn_0  r0 r1  σ p2 p3 = some res → ∀ (H : Heap) (locs : List Loc), ws_P (zD Z) vwCl 211 (za Z) (tX Z) σ H → va_S (ws_A 211 (za Z)) s.heap H locs → ∀ (ls : Array Slot), lv_has ls 8 [(0, .ref (za Z 206)), (1, .ref (za Z (156 + r0))), (2, .ref (za Z (156 + r1))), (3, .int p2), (4, .int p3)] → W p l e rm_X8_stepOn s m args below meth c H locs 0 0 (MQ below (xQv E (zD Z) vwCl 211 (za Z) (tX Z) (tysX Z) res) args s 0 0 (ws_A 211 (za Z))) (F0 m 0 ls []) := by
  have C0 := C
  obtain ⟨hx, hb, hr, hlocks, hml, hown, hts, hE, hJ, hK⟩ := C0
  intro σ p2 p3  h H locs hP hS ls hl
  unfold m_X8_stepOn_0 at h
  refine lv_aload_n hx hb dX8_stepOn_0 rfl (lv_at hl 0 rfl) ?_
  refine wr_get (C := RX8) (T := TX8) (N := 10) hx hb hts (in_X8_stepOn_X8) hown hK hP (k := 206) (by decide) ((tX_Ways Z) _ _ _) rfl 0 (by decide) (hts (.fieldLink RX8 13 "TuneSearch$Ways" "cells" "[[I") (by decide +kernel)) (fun _ h9 => h9) rfl dX8_stepOn_1 ?_
  refine lv_iload_n hx hb dX8_stepOn_4 rfl (lv_at hl 3 rfl) ?_
  obtain ⟨b1, h⟩ := gB_e h
  have hi2 := inB_lt b1
  refine wr_aald hx hb hK hP (k := 150) (by decide) 5 rfl ((tX_cellsO Z) _ _ _) rfl b1 (row_at hi2) dX8_stepOn_5 ?_
  refine lv_iload hx hb dX8_stepOn_6 (lv_at hl 4 rfl) ?_
  obtain ⟨b3, h⟩ := gB_e h
  refine wr_iald hx hb hK hP (k := (41 + p2.toNatClampNeg)) (by omega) 0 ((tX_cells Z p2.toNatClampNeg hi2) _ _ _) rfl b3 dX8_stepOn_8 ?_
  refine lv_topi (fun v4 e5 => ?_)
  have h := lS_u h e5
  refine lv_istore (lv' := [(5, .int v4), (0, .ref (za Z 206)), (1, .ref (za Z (156 + r0))), (2, .ref (za Z (156 + r1))), (3, .int p2), (4, .int p3)]) hx hb dX8_stepOn_9 hl (by decide) rfl (fun ls hl => ?_)
  refine lv_iload_n hx hb dX8_stepOn_11 rfl (lv_at hl 4 rfl) ?_
  refine lv_aload_n hx hb dX8_stepOn_12 rfl (lv_at hl 2 rfl) ?_
  refine wr_get (C := RX4) (T := TX4) (N := 3) hx hb hts (in_X8_stepOn_X4) hown hK hP (k := (156 + r0)) (by omega) ((tX_NoteRow Z r0 hr0) _ _ _) rfl 2 (by decide) (hts (.fieldLink RX8 40 "TuneSearch$NoteRow" "count" "I") (by decide +kernel)) (fun _ h9 => h9) rfl dX8_stepOn_13 ?_
  refine lv_icmp_ge (tgt := 23) hx hb dX8_stepOn_16 (by decide) (fun q6 => ?_) (fun q6 => ?_)
  · have h := if_p h q6
    refine lv_iconst (v := 0) hx hb dX8_stepOn_23 (by decide) ?_
    exact kb_X8_stepOn_24 Z  r0 r1 hr0 hr1 C   σ p2 p3 v4 0 h H locs hP hS ls (lv_sub hl [1, 2, 3, 4, 5, 0] rfl)
  · have h := if_n h q6
    refine lv_iconst (v := 1) hx hb dX8_stepOn_19 (by decide) ?_
    refine lv_goto (tgt := 24) hx hb dX8_stepOn_20 (by decide) ?_
    exact kb_X8_stepOn_24 Z  r0 r1 hr0 hr1 C   σ p2 p3 v4 1 h H locs hP hS ls (lv_sub hl [1, 2, 3, 4, 5, 0] rfl)
def m_X8_stepOn  (r0 : Nat) (r1 : Nat) (σ : SG) (p2 : Int32) (p3 : Int32) : Option (Unit × SG) := m_X8_stepOn_0  r0 r1 σ p2 p3
set_option maxHeartbeats 4000000 in
set_option maxRecDepth 100000 in
theorem k_X8_stepOn (l : Launch) {E : EF} (Z : ZT)  (r0 : Nat) (r1 : Nat) (hr0 : r0 < 9) (hr1 : r1 < 9) (σ : SG) (p2 : Int32) (p3 : Int32) {res : Unit × SG} (h : m_X8_stepOn  r0 r1 σ p2 p3 = some res) : Met l yX8_stepOn wsX8_stepOn rm_X8_stepOn (va_Pc [.ref (za Z 206), .ref (za Z (156 + r0)), .ref (za Z (156 + r1)), .int p2, .int p3] (wx E (zD Z) vwCl 211 (za Z) (tX Z) (tysX Z) σ)) (xQv E (zD Z) vwCl 211 (za Z) (tX Z) (tysX Z) res) 0 0 (ws_A 211 (za Z)) := by
  refine Met.ofW (cc := cX8_stepOn) (maxL := 8) (ret := none) (by decide) rfl ?_
  intro p e s m args below meth c s₁ B hml hv
  obtain ⟨rfl, hE, hJ, hP, hK⟩ := hv
  have hl := lv_entry ([.ref (za Z 206), .ref (za Z (156 + r0)), .ref (za Z (156 + r1)), .int p2, .int p3]) (n := 8) (Nat.le_of_ble_eq_true rfl)
  rw [lg_entry_eq]
  generalize (lg_sl ([.ref (za Z 206), .ref (za Z (156 + r0)), .ref (za Z (156 + r1)), .int p2, .int p3]) ++ List.replicate (8 - (lg_sl ([.ref (za Z 206), .ref (za Z (156 + r0)), .ref (za Z (156 + r1)), .int p2, .int p3])).length) Slot.unset).toArray = ls at hl ⊢
  exact kb_X8_stepOn_0 Z  r0 r1 hr0 hr1 ⟨B.exec, B.bytes, B.returns, B.notSynchronized, hml, findClass_of_methodNamed B.named, atoms_spec (ws := wsX8_stepOn) B.pre, hE, hJ, hK⟩ σ p2 p3 h s.heap [] hP va_S.rf ls hl
/-! TuneSearch$Ways.goThrough(LTuneSearch$NoteRow;LTuneSearch$NoteRow;I)V -/
abbrev rm_X8_goThrough : Room := { frames := 3, cells := 0, slots := 0, locals := 79 }
theorem in_X8_goThrough_X4 : ∀ w ∈ wsX40, w ∈ wsX8_goThrough := by decide +kernel
theorem in_X8_goThrough_X8 : ∀ w ∈ wsX80, w ∈ wsX8_goThrough := by decide +kernel
def m_X8_goThrough_116  (r0 : Nat) (r1 : Nat) (c68 : SG → Int32 → Option (Unit × SG)) (c80 : SG → Int32 → Int32 → Option (Unit × SG)) (σ : SG) (l4 : Int32) (l5 : Int32) : Option (Unit × SG) :=
  lS (l5 + 1) (fun v28 => c80 σ l4 v28)
set_option maxHeartbeats 4000000 in
set_option maxRecDepth 100000 in
theorem kb_X8_goThrough_116 {p : Program} {l : Launch} {e : Env} {s : State} {m : MethodId} {args : Array Value} {below : List Frame} {meth : Method} {c : Code} {E : EF} (Z : ZT)  (r0 : Nat) (r1 : Nat) (hr0 : r0 < 9) (hr1 : r1 < 9) (C : cy p s m args meth c cX8_goThrough none 6 RX8 wsX8_goThrough E (zD Z) vwCl 211 (za Z) (tysX Z)) {res : Unit × SG} {c68 : SG → Int32 → Option (Unit × SG)} {c80 : SG → Int32 → Int32 → Option (Unit × SG)} (hc68 : ∀ (σ : SG) (l4 : Int32) , c68 σ l4 = some res → ∀ (H : Heap) (locs : List Loc), ws_P (zD Z) vwCl 211 (za Z) (tX Z) σ H → va_S (ws_A 211 (za Z)) s.heap H locs → ∀ (ls : Array Slot), lv_has ls 6 [(0, .ref (za Z 206)), (1, .ref (za Z (156 + r0))), (2, .ref (za Z (156 + r1))), (4, .int l4)] → W p l e rm_X8_goThrough s m args below meth c H locs 0 0 (MQ below (xQv E (zD Z) vwCl 211 (za Z) (tX Z) (tysX Z) res) args s 0 0 (ws_A 211 (za Z))) (F0 m 68 ls [])) (hc80 : ∀ (σ : SG) (l4 : Int32) (l5 : Int32) , c80 σ l4 l5 = some res → ∀ (H : Heap) (locs : List Loc), ws_P (zD Z) vwCl 211 (za Z) (tX Z) σ H → va_S (ws_A 211 (za Z)) s.heap H locs → ∀ (ls : Array Slot), lv_has ls 6 [(0, .ref (za Z 206)), (1, .ref (za Z (156 + r0))), (2, .ref (za Z (156 + r1))), (4, .int l4), (5, .int l5)] → W p l e rm_X8_goThrough s m args below meth c H locs 0 0 (MQ below (xQv E (zD Z) vwCl 211 (za Z) (tX Z) (tysX Z) res) args s 0 0 (ws_A 211 (za Z))) (F0 m 80 ls [])) : ∀ (σ : SG) (l4 : Int32) (l5 : Int32) , m_X8_goThrough_116  r0 r1 c68 c80 σ l4 l5 = some res → ∀ (H : Heap) (locs : List Loc), ws_P (zD Z) vwCl 211 (za Z) (tX Z) σ H → va_S (ws_A 211 (za Z)) s.heap H locs → ∀ (ls : Array Slot), lv_has ls 6 [(0, .ref (za Z 206)), (1, .ref (za Z (156 + r0))), (2, .ref (za Z (156 + r1))), (4, .int l4), (5, .int l5)] → W p l e rm_X8_goThrough s m args below meth c H locs 0 0 (MQ below (xQv E (zD Z) vwCl 211 (za Z) (tX Z) (tysX Z) res) args s 0 0 (ws_A 211 (za Z))) (F0 m 116 ls []) := by
  have C0 := C
  obtain ⟨hx, hb, hr, hlocks, hml, hown, hts, hE, hJ, hK⟩ := C0
  intro σ l4 l5  h H locs hP hS ls hl
  unfold m_X8_goThrough_116 at h
  obtain ⟨v28, e29, h⟩ := lS_e h
  refine lv_iinc (v := v28) (lv' := [(5, .int v28), (0, .ref (za Z 206)), (1, .ref (za Z (156 + r0))), (2, .ref (za Z (156 + r1))), (4, .int l4)]) hx hb dX8_goThrough_116 hl (k := 4) rfl (by rw [e29]; rfl) (by decide) rfl (fun ls hl => ?_)
  refine lv_goto (tgt := 80) hx hb dX8_goThrough_119 (by decide) ?_
  exact hc80 σ l4 v28 h H locs hP hS ls (lv_sub hl [1, 2, 3, 4, 0] rfl)
def m_X8_goThrough_80_s  (r0 : Nat) (r1 : Nat) (c68 : SG → Int32 → Option (Unit × SG)) (c80 : SG → Int32 → Int32 → Option (Unit × SG)) (σ : SG) (l4 : Int32) (l5 : Int32) : Option (Unit × SG) :=
  if (σ.1 (156 + r1) 2) < l5 then (lS (l4 + 1) (fun v19 => c68 σ v19)) else (gB (inB l4 25) (gB (inB l5 25) (if (σ.1 206 9) < (σ.1 (41 + l4.toNatClampNeg) l5.toNatClampNeg) then (m_X8_goThrough_116  r0 r1 c68 c80 σ l4 l5) else (bi (m_X8_stepOn r0 r1 σ l4 l5) (fun v25 σ26 => m_X8_goThrough_116  r0 r1 c68 c80 σ26 l4 l5)))))
def m_X8_goThrough_80  (r0 : Nat) (r1 : Nat) (c68 : SG → Int32 → Option (Unit × SG)) : Nat → SG → Int32 → Int32 → Option (Unit × SG)
  | 0, _, _, _ => none
  | n + 1, σ, l4, l5 => m_X8_goThrough_80_s  r0 r1 c68 (m_X8_goThrough_80  r0 r1 c68 n) σ l4 l5
set_option maxHeartbeats 4000000 in
set_option maxRecDepth 100000 in
theorem kb_X8_goThrough_80 {p : Program} {l : Launch} {e : Env} {s : State} {m : MethodId} {args : Array Value} {below : List Frame} {meth : Method} {c : Code} {E : EF} (Z : ZT)  (r0 : Nat) (r1 : Nat) (hr0 : r0 < 9) (hr1 : r1 < 9) (C : cy p s m args meth c cX8_goThrough none 6 RX8 wsX8_goThrough E (zD Z) vwCl 211 (za Z) (tysX Z)) {res : Unit × SG} {c68 : SG → Int32 → Option (Unit × SG)} (hc68 : ∀ (σ : SG) (l4 : Int32) , c68 σ l4 = some res → ∀ (H : Heap) (locs : List Loc), ws_P (zD Z) vwCl 211 (za Z) (tX Z) σ H → va_S (ws_A 211 (za Z)) s.heap H locs → ∀ (ls : Array Slot), lv_has ls 6 [(0, .ref (za Z 206)), (1, .ref (za Z (156 + r0))), (2, .ref (za Z (156 + r1))), (4, .int l4)] → W p l e rm_X8_goThrough s m args below meth c H locs 0 0 (MQ below (xQv E (zD Z) vwCl 211 (za Z) (tX Z) (tysX Z) res) args s 0 0 (ws_A 211 (za Z))) (F0 m 68 ls [])) : ∀ (n : Nat) (σ : SG) (l4 : Int32) (l5 : Int32) , m_X8_goThrough_80  r0 r1 c68 n σ l4 l5 = some res → ∀ (H : Heap) (locs : List Loc), ws_P (zD Z) vwCl 211 (za Z) (tX Z) σ H → va_S (ws_A 211 (za Z)) s.heap H locs → ∀ (ls : Array Slot), lv_has ls 6 [(0, .ref (za Z 206)), (1, .ref (za Z (156 + r0))), (2, .ref (za Z (156 + r1))), (4, .int l4), (5, .int l5)] → W p l e rm_X8_goThrough s m args below meth c H locs 0 0 (MQ below (xQv E (zD Z) vwCl 211 (za Z) (tX Z) (tysX Z) res) args s 0 0 (ws_A 211 (za Z))) (F0 m 80 ls []) := by
  have C0 := C
  obtain ⟨hx, hb, hr, hlocks, hml, hown, hts, hE, hJ, hK⟩ := C0
  intro n
  induction n with
  | zero =>
    intro σ l4 l5  h
    cases h
  | succ n ih =>
    intro σ l4 l5  h H locs hP hS ls hl
    have hc80 : ∀ (σ : SG) (l4 : Int32) (l5 : Int32) , m_X8_goThrough_80  r0 r1 c68 n σ l4 l5 = some res → ∀ (H : Heap) (locs : List Loc), ws_P (zD Z) vwCl 211 (za Z) (tX Z) σ H → va_S (ws_A 211 (za Z)) s.heap H locs → ∀ (ls : Array Slot), lv_has ls 6 [(0, .ref (za Z 206)), (1, .ref (za Z (156 + r0))), (2, .ref (za Z (156 + r1))), (4, .int l4), (5, .int l5)] → W p l e rm_X8_goThrough s m args below meth c H locs 0 0 (MQ below (xQv E (zD Z) vwCl 211 (za Z) (tX Z) (tysX Z) res) args s 0 0 (ws_A 211 (za Z))) (F0 m 80 ls []) := ih
    have h : m_X8_goThrough_80_s  r0 r1 c68 (m_X8_goThrough_80  r0 r1 c68 n) σ l4 l5 = some res := h
    unfold m_X8_goThrough_80_s at h
    refine lv_iload hx hb dX8_goThrough_80 (lv_at hl 4 rfl) ?_
    refine lv_aload_n hx hb dX8_goThrough_82 rfl (lv_at hl 2 rfl) ?_
    refine wr_get (C := RX4) (T := TX4) (N := 3) hx hb hts (in_X8_goThrough_X4) hown hK hP (k := (156 + r1)) (by omega) ((tX_NoteRow Z r1 hr1) _ _ _) rfl 2 (by decide) (hts (.fieldLink RX8 40 "TuneSearch$NoteRow" "count" "I") (by decide +kernel)) (fun _ h9 => h9) rfl dX8_goThrough_83 ?_
    refine lv_icmp_gt (tgt := 122) hx hb dX8_goThrough_86 (by decide) (fun q18 => ?_) (fun q18 => ?_)
    · have h := if_p h q18
      obtain ⟨v19, e20, h⟩ := lS_e h
      refine lv_iinc (v := v19) (lv' := [(4, .int v19), (0, .ref (za Z 206)), (1, .ref (za Z (156 + r0))), (2, .ref (za Z (156 + r1))), (5, .int l5)]) hx hb dX8_goThrough_122 hl (k := 3) rfl (by rw [e20]; rfl) (by decide) rfl (fun ls hl => ?_)
      refine lv_goto (tgt := 68) hx hb dX8_goThrough_125 (by decide) ?_
      exact hc68 σ v19 h H locs hP hS ls (lv_sub hl [1, 2, 3, 0] rfl)
    · have h := if_n h q18
      refine lv_aload_n hx hb dX8_goThrough_89 rfl (lv_at hl 0 rfl) ?_
      refine wr_get (C := RX8) (T := TX8) (N := 10) hx hb hts (in_X8_goThrough_X8) hown hK hP (k := 206) (by decide) ((tX_Ways Z) _ _ _) rfl 0 (by decide) (hts (.fieldLink RX8 13 "TuneSearch$Ways" "cells" "[[I") (by decide +kernel)) (fun _ h9 => h9) rfl dX8_goThrough_90 ?_
      refine lv_iload hx hb dX8_goThrough_93 (lv_at hl 3 rfl) ?_
      obtain ⟨b21, h⟩ := gB_e h
      have hi22 := inB_lt b21
      refine wr_aald hx hb hK hP (k := 150) (by decide) 5 rfl ((tX_cellsO Z) _ _ _) rfl b21 (row_at hi22) dX8_goThrough_95 ?_
      refine lv_iload hx hb dX8_goThrough_96 (lv_at hl 4 rfl) ?_
      obtain ⟨b23, h⟩ := gB_e h
      refine wr_iald hx hb hK hP (k := (41 + l4.toNatClampNeg)) (by omega) 0 ((tX_cells Z l4.toNatClampNeg hi22) _ _ _) rfl b23 dX8_goThrough_98 ?_
      refine lv_aload_n hx hb dX8_goThrough_99 rfl (lv_at hl 0 rfl) ?_
      refine wr_get (C := RX8) (T := TX8) (N := 10) hx hb hts (in_X8_goThrough_X8) hown hK hP (k := 206) (by decide) ((tX_Ways Z) _ _ _) rfl 9 (by decide) (hts (.fieldLink RX8 81 "TuneSearch$Ways" "limit" "I") (by decide +kernel)) (fun _ h9 => h9) rfl dX8_goThrough_100 ?_
      refine lv_icmp_gt (tgt := 116) hx hb dX8_goThrough_103 (by decide) (fun q24 => ?_) (fun q24 => ?_)
      · have h := if_p h q24
        exact kb_X8_goThrough_116 Z  r0 r1 hr0 hr1 C  hc68 hc80 σ l4 l5 h H locs hP hS ls (lv_sub hl [0, 1, 2, 3, 4] rfl)
      · have h := if_n h q24
        refine lv_aload_n hx hb dX8_goThrough_106 rfl (lv_at hl 0 rfl) ?_
        refine lv_aload_n hx hb dX8_goThrough_107 rfl (lv_at hl 1 rfl) ?_
        refine lv_aload_n hx hb dX8_goThrough_108 rfl (lv_at hl 2 rfl) ?_
        refine lv_iload hx hb dX8_goThrough_109 (lv_at hl 3 rfl) ?_
        refine lv_iload hx hb dX8_goThrough_111 (lv_at hl 4 rfl) ?_
        obtain ⟨v25, σ26, hm27, h⟩ := bi_e h
        refine xr_callv (res := (v25, σ26)) (va_runV (As := [.ref (za Z (156 + r0)), .ref (za Z (156 + r1)), .int l4, .int l5]) (rest := []) ⟨hx, hb, hml, hown, hts⟩ (k_X8_stepOn l Z r0 r1 hr0 hr1 σ l4 l5 hm27) (cwV 4 hts gX8_goThrough_X8_stepOn rfl rfl rfl (by decide +kernel) ⟨Nat.le_of_ble_eq_true rfl, Nat.le_of_ble_eq_true rfl⟩) ⟨wx_blind, wr_recv hK hP (k := 206) (by decide) ((tX_Ways Z) _ _ _) rfl, fun U hU hW => ⟨rfl, wx_at hE hJ hP hK hS hU hW⟩⟩ rfl rfl hl.1 rfl (lv_room (Nat.le_of_ble_eq_true rfl)) dX8_goThrough_113 ⟨Nat.le_of_ble_eq_true rfl, Nat.le_of_ble_eq_true rfl⟩) hS (fun H locs hP hS => ?_)
        have hP : ws_P (zD Z) vwCl 211 (za Z) (tX Z) σ26 H := hP
        exact kb_X8_goThrough_116 Z  r0 r1 hr0 hr1 C  hc68 hc80 σ26 l4 l5 h H locs hP hS ls (lv_sub hl [0, 1, 2, 3, 4] rfl)
def m_X8_goThrough_68_s  (r0 : Nat) (r1 : Nat)  (c68 : SG → Int32 → Option (Unit × SG)) (σ : SG) (l4 : Int32) : Option (Unit × SG) :=
  if (σ.1 (156 + r0) 2) < l4 then (some ((), σ)) else (m_X8_goThrough_80  r0 r1 c68 FV σ l4 0)
def m_X8_goThrough_68  (r0 : Nat) (r1 : Nat)  : Nat → SG → Int32 → Option (Unit × SG)
  | 0, _, _ => none
  | n + 1, σ, l4 => m_X8_goThrough_68_s  r0 r1  (m_X8_goThrough_68  r0 r1  n) σ l4
set_option maxHeartbeats 4000000 in
set_option maxRecDepth 100000 in
theorem kb_X8_goThrough_68 {p : Program} {l : Launch} {e : Env} {s : State} {m : MethodId} {args : Array Value} {below : List Frame} {meth : Method} {c : Code} {E : EF} (Z : ZT)  (r0 : Nat) (r1 : Nat) (hr0 : r0 < 9) (hr1 : r1 < 9) (C : cy p s m args meth c cX8_goThrough none 6 RX8 wsX8_goThrough E (zD Z) vwCl 211 (za Z) (tysX Z)) {res : Unit × SG}   : ∀ (n : Nat) (σ : SG) (l4 : Int32) , m_X8_goThrough_68  r0 r1  n σ l4 = some res → ∀ (H : Heap) (locs : List Loc), ws_P (zD Z) vwCl 211 (za Z) (tX Z) σ H → va_S (ws_A 211 (za Z)) s.heap H locs → ∀ (ls : Array Slot), lv_has ls 6 [(0, .ref (za Z 206)), (1, .ref (za Z (156 + r0))), (2, .ref (za Z (156 + r1))), (4, .int l4)] → W p l e rm_X8_goThrough s m args below meth c H locs 0 0 (MQ below (xQv E (zD Z) vwCl 211 (za Z) (tX Z) (tysX Z) res) args s 0 0 (ws_A 211 (za Z))) (F0 m 68 ls []) := by
  have C0 := C
  obtain ⟨hx, hb, hr, hlocks, hml, hown, hts, hE, hJ, hK⟩ := C0
  intro n
  induction n with
  | zero =>
    intro σ l4  h
    cases h
  | succ n ih =>
    intro σ l4  h H locs hP hS ls hl
    have hc68 : ∀ (σ : SG) (l4 : Int32) , m_X8_goThrough_68  r0 r1  n σ l4 = some res → ∀ (H : Heap) (locs : List Loc), ws_P (zD Z) vwCl 211 (za Z) (tX Z) σ H → va_S (ws_A 211 (za Z)) s.heap H locs → ∀ (ls : Array Slot), lv_has ls 6 [(0, .ref (za Z 206)), (1, .ref (za Z (156 + r0))), (2, .ref (za Z (156 + r1))), (4, .int l4)] → W p l e rm_X8_goThrough s m args below meth c H locs 0 0 (MQ below (xQv E (zD Z) vwCl 211 (za Z) (tX Z) (tysX Z) res) args s 0 0 (ws_A 211 (za Z))) (F0 m 68 ls []) := ih
    have h : m_X8_goThrough_68_s  r0 r1  (m_X8_goThrough_68  r0 r1  n) σ l4 = some res := h
    unfold m_X8_goThrough_68_s at h
    refine lv_iload hx hb dX8_goThrough_68 (lv_at hl 3 rfl) ?_
    refine lv_aload_n hx hb dX8_goThrough_70 rfl (lv_at hl 1 rfl) ?_
    refine wr_get (C := RX4) (T := TX4) (N := 3) hx hb hts (in_X8_goThrough_X4) hown hK hP (k := (156 + r0)) (by omega) ((tX_NoteRow Z r0 hr0) _ _ _) rfl 2 (by decide) (hts (.fieldLink RX8 40 "TuneSearch$NoteRow" "count" "I") (by decide +kernel)) (fun _ h9 => h9) rfl dX8_goThrough_71 ?_
    refine lv_icmp_gt (tgt := 128) hx hb dX8_goThrough_74 (by decide) (fun q2 => ?_) (fun q2 => ?_)
    · have h := if_p h q2
      exact xr_vret hx hb hr hlocks hE hJ hK hP hS h dX8_goThrough_128
    · have h := if_n h q2
      refine lv_iconst (v := 0) hx hb dX8_goThrough_77 (by decide) ?_
      refine lv_istore (lv' := [(5, .int 0), (0, .ref (za Z 206)), (1, .ref (za Z (156 + r0))), (2, .ref (za Z (156 + r1))), (4, .int l4)]) hx hb dX8_goThrough_78 hl (by decide) rfl (fun ls hl => ?_)
      exact kb_X8_goThrough_80 Z  r0 r1 hr0 hr1 C  hc68 FV σ l4 0 h H locs hP hS ls (lv_sub hl [1, 2, 3, 4, 0] rfl)
def m_X8_goThrough_15_s  (r0 : Nat) (r1 : Nat) (c3 : SG → Int32 → Int32 → Option (Unit × SG)) (c15 : SG → Int32 → Int32 → Int32 → Option (Unit × SG)) (σ : SG) (l3 : Int32) (l4 : Int32) (l5 : Int32) : Option (Unit × SG) :=
  if (σ.1 (156 + r1) 2) ≤ l5 then (lS (l4 + 1) (fun v4 => c3 σ l3 v4)) else (gB (inB l4 24) (gB (inB l4 (lenX (2 * r0))) (gB (inB l5 (lenX (2 * r1))) (bi (m_X8_pairCost  σ (σ.1 (2 * r0) l4.toNatClampNeg) (σ.1 (2 * r1) l5.toNatClampNeg) l3) (fun v10 σ11 => gB (inB l5 24) (lS (sI σ11 (66 + l4.toNatClampNeg) l5.toNatClampNeg v10) (fun σ14 => lS (l5 + 1) (fun v16 => c15 σ14 l3 l4 v16))))))))
def m_X8_goThrough_15  (r0 : Nat) (r1 : Nat) (c3 : SG → Int32 → Int32 → Option (Unit × SG)) : Nat → SG → Int32 → Int32 → Int32 → Option (Unit × SG)
  | 0, _, _, _, _ => none
  | n + 1, σ, l3, l4, l5 => m_X8_goThrough_15_s  r0 r1 c3 (m_X8_goThrough_15  r0 r1 c3 n) σ l3 l4 l5
set_option maxHeartbeats 4000000 in
set_option maxRecDepth 100000 in
theorem kb_X8_goThrough_15 {p : Program} {l : Launch} {e : Env} {s : State} {m : MethodId} {args : Array Value} {below : List Frame} {meth : Method} {c : Code} {E : EF} (Z : ZT)  (r0 : Nat) (r1 : Nat) (hr0 : r0 < 9) (hr1 : r1 < 9) (C : cy p s m args meth c cX8_goThrough none 6 RX8 wsX8_goThrough E (zD Z) vwCl 211 (za Z) (tysX Z)) {res : Unit × SG} {c3 : SG → Int32 → Int32 → Option (Unit × SG)} (hc3 : ∀ (σ : SG) (l3 : Int32) (l4 : Int32) , c3 σ l3 l4 = some res → ∀ (H : Heap) (locs : List Loc), ws_P (zD Z) vwCl 211 (za Z) (tX Z) σ H → va_S (ws_A 211 (za Z)) s.heap H locs → ∀ (ls : Array Slot), lv_has ls 6 [(0, .ref (za Z 206)), (1, .ref (za Z (156 + r0))), (2, .ref (za Z (156 + r1))), (3, .int l3), (4, .int l4)] → W p l e rm_X8_goThrough s m args below meth c H locs 0 0 (MQ below (xQv E (zD Z) vwCl 211 (za Z) (tX Z) (tysX Z) res) args s 0 0 (ws_A 211 (za Z))) (F0 m 3 ls [])) : ∀ (n : Nat) (σ : SG) (l3 : Int32) (l4 : Int32) (l5 : Int32) , m_X8_goThrough_15  r0 r1 c3 n σ l3 l4 l5 = some res → ∀ (H : Heap) (locs : List Loc), ws_P (zD Z) vwCl 211 (za Z) (tX Z) σ H → va_S (ws_A 211 (za Z)) s.heap H locs → ∀ (ls : Array Slot), lv_has ls 6 [(0, .ref (za Z 206)), (1, .ref (za Z (156 + r0))), (2, .ref (za Z (156 + r1))), (3, .int l3), (4, .int l4), (5, .int l5)] → W p l e rm_X8_goThrough s m args below meth c H locs 0 0 (MQ below (xQv E (zD Z) vwCl 211 (za Z) (tX Z) (tysX Z) res) args s 0 0 (ws_A 211 (za Z))) (F0 m 15 ls []) := by
  have C0 := C
  obtain ⟨hx, hb, hr, hlocks, hml, hown, hts, hE, hJ, hK⟩ := C0
  intro n
  induction n with
  | zero =>
    intro σ l3 l4 l5  h
    cases h
  | succ n ih =>
    intro σ l3 l4 l5  h H locs hP hS ls hl
    have hc15 : ∀ (σ : SG) (l3 : Int32) (l4 : Int32) (l5 : Int32) , m_X8_goThrough_15  r0 r1 c3 n σ l3 l4 l5 = some res → ∀ (H : Heap) (locs : List Loc), ws_P (zD Z) vwCl 211 (za Z) (tX Z) σ H → va_S (ws_A 211 (za Z)) s.heap H locs → ∀ (ls : Array Slot), lv_has ls 6 [(0, .ref (za Z 206)), (1, .ref (za Z (156 + r0))), (2, .ref (za Z (156 + r1))), (3, .int l3), (4, .int l4), (5, .int l5)] → W p l e rm_X8_goThrough s m args below meth c H locs 0 0 (MQ below (xQv E (zD Z) vwCl 211 (za Z) (tX Z) (tysX Z) res) args s 0 0 (ws_A 211 (za Z))) (F0 m 15 ls []) := ih
    have h : m_X8_goThrough_15_s  r0 r1 c3 (m_X8_goThrough_15  r0 r1 c3 n) σ l3 l4 l5 = some res := h
    unfold m_X8_goThrough_15_s at h
    refine lv_iload hx hb dX8_goThrough_15 (lv_at hl 5 rfl) ?_
    refine lv_aload_n hx hb dX8_goThrough_17 rfl (lv_at hl 2 rfl) ?_
    refine wr_get (C := RX4) (T := TX4) (N := 3) hx hb hts (in_X8_goThrough_X4) hown hK hP (k := (156 + r1)) (by omega) ((tX_NoteRow Z r1 hr1) _ _ _) rfl 2 (by decide) (hts (.fieldLink RX8 40 "TuneSearch$NoteRow" "count" "I") (by decide +kernel)) (fun _ h9 => h9) rfl dX8_goThrough_18 ?_
    refine lv_icmp_ge (tgt := 59) hx hb dX8_goThrough_21 (by decide) (fun q3 => ?_) (fun q3 => ?_)
    · have h := if_p h q3
      obtain ⟨v4, e5, h⟩ := lS_e h
      refine lv_iinc (v := v4) (lv' := [(4, .int v4), (0, .ref (za Z 206)), (1, .ref (za Z (156 + r0))), (2, .ref (za Z (156 + r1))), (3, .int l3), (5, .int l5)]) hx hb dX8_goThrough_59 hl (k := 4) rfl (by rw [e5]; rfl) (by decide) rfl (fun ls hl => ?_)
      refine lv_goto (tgt := 3) hx hb dX8_goThrough_62 (by decide) ?_
      exact hc3 σ l3 v4 h H locs hP hS ls (lv_sub hl [1, 2, 3, 4, 0] rfl)
    · have h := if_n h q3
      refine lv_aload_n hx hb dX8_goThrough_24 rfl (lv_at hl 0 rfl) ?_
      refine wr_get (C := RX8) (T := TX8) (N := 10) hx hb hts (in_X8_goThrough_X8) hown hK hP (k := 206) (by decide) ((tX_Ways Z) _ _ _) rfl 1 (by decide) (hts (.fieldLink RX8 18 "TuneSearch$Ways" "pairs" "[[I") (by decide +kernel)) (fun _ h9 => h9) rfl dX8_goThrough_25 ?_
      refine lv_iload hx hb dX8_goThrough_28 (lv_at hl 4 rfl) ?_
      obtain ⟨b6, h⟩ := gB_e h
      have hi7 := inB_lt b6
      refine wr_aald hx hb hK hP (k := 151) (by decide) 5 rfl ((tX_pairsO Z) _ _ _) rfl b6 (row_at hi7) dX8_goThrough_30 ?_
      refine lv_iload hx hb dX8_goThrough_31 (lv_at hl 5 rfl) ?_
      refine lv_aload_n hx hb dX8_goThrough_33 rfl (lv_at hl 0 rfl) ?_
      refine lv_aload_n hx hb dX8_goThrough_34 rfl (lv_at hl 1 rfl) ?_
      refine wr_get (C := RX4) (T := TX4) (N := 3) hx hb hts (in_X8_goThrough_X4) hown hK hP (k := (156 + r0)) (by omega) ((tX_NoteRow Z r0 hr0) _ _ _) rfl 0 (by decide) (hts (.fieldLink RX8 84 "TuneSearch$NoteRow" "pitches" "[I") (by decide +kernel)) (fun _ h9 => h9) rfl dX8_goThrough_35 ?_
      refine lv_iload hx hb dX8_goThrough_38 (lv_at hl 4 rfl) ?_
      obtain ⟨b8, h⟩ := gB_e h
      refine wr_iald hx hb hK hP (k := (2 * r0)) (by omega) 0 ((tX_I Z (2 * r0) (by omega)) _ _ _) rfl b8 dX8_goThrough_40 ?_
      refine lv_aload_n hx hb dX8_goThrough_41 rfl (lv_at hl 2 rfl) ?_
      refine wr_get (C := RX4) (T := TX4) (N := 3) hx hb hts (in_X8_goThrough_X4) hown hK hP (k := (156 + r1)) (by omega) ((tX_NoteRow Z r1 hr1) _ _ _) rfl 0 (by decide) (hts (.fieldLink RX8 84 "TuneSearch$NoteRow" "pitches" "[I") (by decide +kernel)) (fun _ h9 => h9) rfl dX8_goThrough_42 ?_
      refine lv_iload hx hb dX8_goThrough_45 (lv_at hl 5 rfl) ?_
      obtain ⟨b9, h⟩ := gB_e h
      refine wr_iald hx hb hK hP (k := (2 * r1)) (by omega) 0 ((tX_I Z (2 * r1) (by omega)) _ _ _) rfl b9 dX8_goThrough_47 ?_
      refine lv_iload_n hx hb dX8_goThrough_48 rfl (lv_at hl 3 rfl) ?_
      obtain ⟨v10, σ11, hm12, h⟩ := bi_e h
      refine xr_calli (res := (v10, σ11)) (va_runV (As := [.int (σ.1 (2 * r0) l4.toNatClampNeg), .int (σ.1 (2 * r1) l5.toNatClampNeg), .int l3]) (rest := [.int l5, .ref (za Z (66 + l4.toNatClampNeg))]) ⟨hx, hb, hml, hown, hts⟩ (k_X8_pairCost l Z   σ (σ.1 (2 * r0) l4.toNatClampNeg) (σ.1 (2 * r1) l5.toNatClampNeg) l3 hm12) (cwV 3 hts gX8_goThrough_X8_pairCost rfl rfl rfl (by decide +kernel) ⟨Nat.le_of_ble_eq_true rfl, Nat.le_of_ble_eq_true rfl⟩) ⟨wx_blind, wr_recv hK hP (k := 206) (by decide) ((tX_Ways Z) _ _ _) rfl, fun U hU hW => ⟨rfl, wx_at hE hJ hP hK hS hU hW⟩⟩ rfl rfl hl.1 rfl (lv_room (Nat.le_of_ble_eq_true rfl)) dX8_goThrough_49 ⟨Nat.le_of_ble_eq_true rfl, Nat.le_of_ble_eq_true rfl⟩) hS (fun H locs hP hS => ?_)
      have hP : ws_P (zD Z) vwCl 211 (za Z) (tX Z) σ11 H := hP
      obtain ⟨b13, h⟩ := gB_e h
      refine wr_iast hx hb hK hP hJ hS (k := (66 + l4.toNatClampNeg)) (by omega) 0 (tX_pairs Z l4.toNatClampNeg hi7) rfl b13 dX8_goThrough_52 (fun H locs hP hS => ?_)
      obtain ⟨σ14, e15, h⟩ := lS_e h
      rw [← e15] at hP
      obtain ⟨v16, e17, h⟩ := lS_e h
      refine lv_iinc (v := v16) (lv' := [(5, .int v16), (0, .ref (za Z 206)), (1, .ref (za Z (156 + r0))), (2, .ref (za Z (156 + r1))), (3, .int l3), (4, .int l4)]) hx hb dX8_goThrough_53 hl (k := 5) rfl (by rw [e17]; rfl) (by decide) rfl (fun ls hl => ?_)
      refine lv_goto (tgt := 15) hx hb dX8_goThrough_56 (by decide) ?_
      exact hc15 σ14 l3 l4 v16 h H locs hP hS ls (lv_sub hl [1, 2, 3, 4, 5, 0] rfl)
def m_X8_goThrough_3_s  (r0 : Nat) (r1 : Nat)  (c3 : SG → Int32 → Int32 → Option (Unit × SG)) (σ : SG) (l3 : Int32) (l4 : Int32) : Option (Unit × SG) :=
  if (σ.1 (156 + r0) 2) ≤ l4 then (m_X8_goThrough_68  r0 r1  FV σ 0) else (m_X8_goThrough_15  r0 r1 c3 FV σ l3 l4 0)
def m_X8_goThrough_3  (r0 : Nat) (r1 : Nat)  : Nat → SG → Int32 → Int32 → Option (Unit × SG)
  | 0, _, _, _ => none
  | n + 1, σ, l3, l4 => m_X8_goThrough_3_s  r0 r1  (m_X8_goThrough_3  r0 r1  n) σ l3 l4
set_option maxHeartbeats 4000000 in
set_option maxRecDepth 100000 in
theorem kb_X8_goThrough_3 {p : Program} {l : Launch} {e : Env} {s : State} {m : MethodId} {args : Array Value} {below : List Frame} {meth : Method} {c : Code} {E : EF} (Z : ZT)  (r0 : Nat) (r1 : Nat) (hr0 : r0 < 9) (hr1 : r1 < 9) (C : cy p s m args meth c cX8_goThrough none 6 RX8 wsX8_goThrough E (zD Z) vwCl 211 (za Z) (tysX Z)) {res : Unit × SG}   : ∀ (n : Nat) (σ : SG) (l3 : Int32) (l4 : Int32) , m_X8_goThrough_3  r0 r1  n σ l3 l4 = some res → ∀ (H : Heap) (locs : List Loc), ws_P (zD Z) vwCl 211 (za Z) (tX Z) σ H → va_S (ws_A 211 (za Z)) s.heap H locs → ∀ (ls : Array Slot), lv_has ls 6 [(0, .ref (za Z 206)), (1, .ref (za Z (156 + r0))), (2, .ref (za Z (156 + r1))), (3, .int l3), (4, .int l4)] → W p l e rm_X8_goThrough s m args below meth c H locs 0 0 (MQ below (xQv E (zD Z) vwCl 211 (za Z) (tX Z) (tysX Z) res) args s 0 0 (ws_A 211 (za Z))) (F0 m 3 ls []) := by
  have C0 := C
  obtain ⟨hx, hb, hr, hlocks, hml, hown, hts, hE, hJ, hK⟩ := C0
  intro n
  induction n with
  | zero =>
    intro σ l3 l4  h
    cases h
  | succ n ih =>
    intro σ l3 l4  h H locs hP hS ls hl
    have hc3 : ∀ (σ : SG) (l3 : Int32) (l4 : Int32) , m_X8_goThrough_3  r0 r1  n σ l3 l4 = some res → ∀ (H : Heap) (locs : List Loc), ws_P (zD Z) vwCl 211 (za Z) (tX Z) σ H → va_S (ws_A 211 (za Z)) s.heap H locs → ∀ (ls : Array Slot), lv_has ls 6 [(0, .ref (za Z 206)), (1, .ref (za Z (156 + r0))), (2, .ref (za Z (156 + r1))), (3, .int l3), (4, .int l4)] → W p l e rm_X8_goThrough s m args below meth c H locs 0 0 (MQ below (xQv E (zD Z) vwCl 211 (za Z) (tX Z) (tysX Z) res) args s 0 0 (ws_A 211 (za Z))) (F0 m 3 ls []) := ih
    have h : m_X8_goThrough_3_s  r0 r1  (m_X8_goThrough_3  r0 r1  n) σ l3 l4 = some res := h
    unfold m_X8_goThrough_3_s at h
    refine lv_iload hx hb dX8_goThrough_3 (lv_at hl 4 rfl) ?_
    refine lv_aload_n hx hb dX8_goThrough_5 rfl (lv_at hl 1 rfl) ?_
    refine wr_get (C := RX4) (T := TX4) (N := 3) hx hb hts (in_X8_goThrough_X4) hown hK hP (k := (156 + r0)) (by omega) ((tX_NoteRow Z r0 hr0) _ _ _) rfl 2 (by decide) (hts (.fieldLink RX8 40 "TuneSearch$NoteRow" "count" "I") (by decide +kernel)) (fun _ h9 => h9) rfl dX8_goThrough_6 ?_
    refine lv_icmp_ge (tgt := 65) hx hb dX8_goThrough_9 (by decide) (fun q1 => ?_) (fun q1 => ?_)
    · have h := if_p h q1
      refine lv_iconst (v := 0) hx hb dX8_goThrough_65 (by decide) ?_
      refine lv_istore (lv' := [(4, .int 0), (0, .ref (za Z 206)), (1, .ref (za Z (156 + r0))), (2, .ref (za Z (156 + r1))), (3, .int l3)]) hx hb dX8_goThrough_66 hl (by decide) rfl (fun ls hl => ?_)
      exact kb_X8_goThrough_68 Z  r0 r1 hr0 hr1 C   FV σ 0 h H locs hP hS ls (lv_sub hl [1, 2, 3, 0] rfl)
    · have h := if_n h q1
      refine lv_iconst (v := 0) hx hb dX8_goThrough_12 (by decide) ?_
      refine lv_istore (lv' := [(5, .int 0), (0, .ref (za Z 206)), (1, .ref (za Z (156 + r0))), (2, .ref (za Z (156 + r1))), (3, .int l3), (4, .int l4)]) hx hb dX8_goThrough_13 hl (by decide) rfl (fun ls hl => ?_)
      exact kb_X8_goThrough_15 Z  r0 r1 hr0 hr1 C  hc3 FV σ l3 l4 0 h H locs hP hS ls (lv_sub hl [1, 2, 3, 4, 5, 0] rfl)
def m_X8_goThrough_0  (r0 : Nat) (r1 : Nat)  (σ : SG) (p2 : Int32) : Option (Unit × SG) :=
  m_X8_goThrough_3  r0 r1  FV σ p2 0
set_option maxHeartbeats 4000000 in
set_option maxRecDepth 100000 in
theorem kb_X8_goThrough_0 {p : Program} {l : Launch} {e : Env} {s : State} {m : MethodId} {args : Array Value} {below : List Frame} {meth : Method} {c : Code} {E : EF} (Z : ZT)  (r0 : Nat) (r1 : Nat) (hr0 : r0 < 9) (hr1 : r1 < 9) (C : cy p s m args meth c cX8_goThrough none 6 RX8 wsX8_goThrough E (zD Z) vwCl 211 (za Z) (tysX Z)) {res : Unit × SG}   : ∀ (σ : SG) (p2 : Int32) , m_X8_goThrough_0  r0 r1  σ p2 = some res → ∀ (H : Heap) (locs : List Loc), ws_P (zD Z) vwCl 211 (za Z) (tX Z) σ H → va_S (ws_A 211 (za Z)) s.heap H locs → ∀ (ls : Array Slot), lv_has ls 6 [(0, .ref (za Z 206)), (1, .ref (za Z (156 + r0))), (2, .ref (za Z (156 + r1))), (3, .int p2)] → W p l e rm_X8_goThrough s m args below meth c H locs 0 0 (MQ below (xQv E (zD Z) vwCl 211 (za Z) (tX Z) (tysX Z) res) args s 0 0 (ws_A 211 (za Z))) (F0 m 0 ls []) := by
  have C0 := C
  obtain ⟨hx, hb, hr, hlocks, hml, hown, hts, hE, hJ, hK⟩ := C0
  intro σ p2  h H locs hP hS ls hl
  unfold m_X8_goThrough_0 at h
  refine lv_iconst (v := 0) hx hb dX8_goThrough_0 (by decide) ?_
  refine lv_istore (lv' := [(4, .int 0), (0, .ref (za Z 206)), (1, .ref (za Z (156 + r0))), (2, .ref (za Z (156 + r1))), (3, .int p2)]) hx hb dX8_goThrough_1 hl (by decide) rfl (fun ls hl => ?_)
  exact kb_X8_goThrough_3 Z  r0 r1 hr0 hr1 C   FV σ p2 0 h H locs hP hS ls (lv_sub hl [1, 2, 3, 4, 0] rfl)
def m_X8_goThrough  (r0 : Nat) (r1 : Nat) (σ : SG) (p2 : Int32) : Option (Unit × SG) := m_X8_goThrough_0  r0 r1 σ p2
set_option maxHeartbeats 4000000 in
set_option maxRecDepth 100000 in
theorem k_X8_goThrough (l : Launch) {E : EF} (Z : ZT)  (r0 : Nat) (r1 : Nat) (hr0 : r0 < 9) (hr1 : r1 < 9) (σ : SG) (p2 : Int32) {res : Unit × SG} (h : m_X8_goThrough  r0 r1 σ p2 = some res) : Met l yX8_goThrough wsX8_goThrough rm_X8_goThrough (va_Pc [.ref (za Z 206), .ref (za Z (156 + r0)), .ref (za Z (156 + r1)), .int p2] (wx E (zD Z) vwCl 211 (za Z) (tX Z) (tysX Z) σ)) (xQv E (zD Z) vwCl 211 (za Z) (tX Z) (tysX Z) res) 0 0 (ws_A 211 (za Z)) := by
  refine Met.ofW (cc := cX8_goThrough) (maxL := 6) (ret := none) (by decide) rfl ?_
  intro p e s m args below meth c s₁ B hml hv
  obtain ⟨rfl, hE, hJ, hP, hK⟩ := hv
  have hl := lv_entry ([.ref (za Z 206), .ref (za Z (156 + r0)), .ref (za Z (156 + r1)), .int p2]) (n := 6) (Nat.le_of_ble_eq_true rfl)
  rw [lg_entry_eq]
  generalize (lg_sl ([.ref (za Z 206), .ref (za Z (156 + r0)), .ref (za Z (156 + r1)), .int p2]) ++ List.replicate (6 - (lg_sl ([.ref (za Z 206), .ref (za Z (156 + r0)), .ref (za Z (156 + r1)), .int p2])).length) Slot.unset).toArray = ls at hl ⊢
  exact kb_X8_goThrough_0 Z  r0 r1 hr0 hr1 ⟨B.exec, B.bytes, B.returns, B.notSynchronized, hml, findClass_of_methodNamed B.named, atoms_spec (ws := wsX8_goThrough) B.pre, hE, hJ, hK⟩ σ p2 h s.heap [] hP va_S.rf ls hl
/-! TuneSearch$Ways.wholeCost([ILTuneSearch$NoteRow;LTuneSearch$NoteRow;II)I -/
abbrev rm_X8_wholeCost : Room := { frames := 4, cells := 0, slots := 0, locals := 104 }
theorem in_X8_wholeCost_X4 : ∀ w ∈ wsX40, w ∈ wsX8_wholeCost := by decide +kernel
theorem in_X8_wholeCost_X8 : ∀ w ∈ wsX80, w ∈ wsX8_wholeCost := by decide +kernel
def m_X8_wholeCost_0  (r1 : Nat) (r2 : Nat)  (σ : SG) (p3 : Int32) (p4 : Int32) : Option (Int32 × SG) :=
  bi (m_X8_begin  σ p4) (fun v1 σ2 => bi (m_X8_clearCells r1 r2 σ2 ) (fun v4 σ5 => gB (inB 0 25) (gB (inB 0 25) (lS (sI σ5 (41 + (0 : Int32).toNatClampNeg) (0 : Int32).toNatClampNeg 0) (fun σ10 => bi (m_X8_goThrough r1 r2 σ10 p3) (fun v12 σ13 => gB (inB (σ13.1 (156 + r1) 2) 25) (gB (inB (σ13.1 (156 + r2) 2) 25) (some ((σ13.1 (41 + (σ13.1 (156 + r1) 2).toNatClampNeg) (σ13.1 (156 + r2) 2).toNatClampNeg) / 32, σ13)))))))))
set_option maxHeartbeats 4000000 in
set_option maxRecDepth 100000 in
theorem kb_X8_wholeCost_0 {p : Program} {l : Launch} {e : Env} {s : State} {m : MethodId} {args : Array Value} {below : List Frame} {meth : Method} {c : Code} {E : EF} (Z : ZT)  (r1 : Nat) (r2 : Nat) (hr1 : r1 < 9) (hr2 : r2 < 9) (C : cy p s m args meth c cX8_wholeCost (some .int) 6 RX8 wsX8_wholeCost E (zD Z) vwCl 211 (za Z) (tysX Z)) {res : Int32 × SG}   : ∀ (σ : SG) (p3 : Int32) (p4 : Int32) , m_X8_wholeCost_0  r1 r2  σ p3 p4 = some res → ∀ (H : Heap) (locs : List Loc), ws_P (zD Z) vwCl 211 (za Z) (tX Z) σ H → va_S (ws_A 211 (za Z)) s.heap H locs → ∀ (ls : Array Slot), lv_has ls 6 [(0, .ref (za Z 206)), (1, .ref (za Z 18)), (2, .ref (za Z (156 + r1))), (3, .ref (za Z (156 + r2))), (4, .int p3), (5, .int p4)] → W p l e rm_X8_wholeCost s m args below meth c H locs 0 0 (MQ below (xQi E (zD Z) vwCl 211 (za Z) (tX Z) (tysX Z) res) args s 0 0 (ws_A 211 (za Z))) (F0 m 0 ls []) := by
  have C0 := C
  obtain ⟨hx, hb, hr, hlocks, hml, hown, hts, hE, hJ, hK⟩ := C0
  intro σ p3 p4  h H locs hP hS ls hl
  unfold m_X8_wholeCost_0 at h
  refine lv_aload_n hx hb dX8_wholeCost_0 rfl (lv_at hl 0 rfl) ?_
  refine lv_aload_n hx hb dX8_wholeCost_1 rfl (lv_at hl 1 rfl) ?_
  refine lv_iload hx hb dX8_wholeCost_2 (lv_at hl 5 rfl) ?_
  obtain ⟨v1, σ2, hm3, h⟩ := bi_e h
  refine xr_callv (res := (v1, σ2)) (va_runV (As := [.ref (za Z 18), .int p4]) (rest := []) ⟨hx, hb, hml, hown, hts⟩ (k_X8_begin l Z   σ p4 hm3) (cwV 2 hts gX8_wholeCost_X8_begin rfl rfl rfl (by decide +kernel) ⟨Nat.le_of_ble_eq_true rfl, Nat.le_of_ble_eq_true rfl⟩) ⟨wx_blind, wr_recv hK hP (k := 206) (by decide) ((tX_Ways Z) _ _ _) rfl, fun U hU hW => ⟨rfl, wx_at hE hJ hP hK hS hU hW⟩⟩ rfl rfl hl.1 rfl (lv_room (Nat.le_of_ble_eq_true rfl)) dX8_wholeCost_4 ⟨Nat.le_of_ble_eq_true rfl, Nat.le_of_ble_eq_true rfl⟩) hS (fun H locs hP hS => ?_)
  have hP : ws_P (zD Z) vwCl 211 (za Z) (tX Z) σ2 H := hP
  refine lv_aload_n hx hb dX8_wholeCost_7 rfl (lv_at hl 0 rfl) ?_
  refine lv_aload_n hx hb dX8_wholeCost_8 rfl (lv_at hl 2 rfl) ?_
  refine lv_aload_n hx hb dX8_wholeCost_9 rfl (lv_at hl 3 rfl) ?_
  obtain ⟨v4, σ5, hm6, h⟩ := bi_e h
  refine xr_callv (res := (v4, σ5)) (va_runV (As := [.ref (za Z (156 + r1)), .ref (za Z (156 + r2))]) (rest := []) ⟨hx, hb, hml, hown, hts⟩ (k_X8_clearCells l Z r1 r2 hr1 hr2 σ2  hm6) (cwV 2 hts gX8_wholeCost_X8_clearCells rfl rfl rfl (by decide +kernel) ⟨Nat.le_of_ble_eq_true rfl, Nat.le_of_ble_eq_true rfl⟩) ⟨wx_blind, wr_recv hK hP (k := 206) (by decide) ((tX_Ways Z) _ _ _) rfl, fun U hU hW => ⟨rfl, wx_at hE hJ hP hK hS hU hW⟩⟩ rfl rfl hl.1 rfl (lv_room (Nat.le_of_ble_eq_true rfl)) dX8_wholeCost_10 ⟨Nat.le_of_ble_eq_true rfl, Nat.le_of_ble_eq_true rfl⟩) hS (fun H locs hP hS => ?_)
  have hP : ws_P (zD Z) vwCl 211 (za Z) (tX Z) σ5 H := hP
  refine lv_aload_n hx hb dX8_wholeCost_13 rfl (lv_at hl 0 rfl) ?_
  refine wr_get (C := RX8) (T := TX8) (N := 10) hx hb hts (in_X8_wholeCost_X8) hown hK hP (k := 206) (by decide) ((tX_Ways Z) _ _ _) rfl 0 (by decide) (hts (.fieldLink RX8 13 "TuneSearch$Ways" "cells" "[[I") (by decide +kernel)) (fun _ h9 => h9) rfl dX8_wholeCost_14 ?_
  refine lv_iconst (v := 0) hx hb dX8_wholeCost_17 (by decide) ?_
  obtain ⟨b7, h⟩ := gB_e h
  have hi8 := inB_lt b7
  refine wr_aald hx hb hK hP (k := 150) (by decide) 5 rfl ((tX_cellsO Z) _ _ _) rfl b7 (row_at hi8) dX8_wholeCost_18 ?_
  refine lv_iconst (v := 0) hx hb dX8_wholeCost_19 (by decide) ?_
  refine lv_iconst (v := 0) hx hb dX8_wholeCost_20 (by decide) ?_
  obtain ⟨b9, h⟩ := gB_e h
  refine wr_iast hx hb hK hP hJ hS (k := (41 + (0 : Int32).toNatClampNeg)) (by omega) 0 (tX_cells Z (0 : Int32).toNatClampNeg hi8) rfl b9 dX8_wholeCost_21 (fun H locs hP hS => ?_)
  obtain ⟨σ10, e11, h⟩ := lS_e h
  rw [← e11] at hP
  refine lv_aload_n hx hb dX8_wholeCost_22 rfl (lv_at hl 0 rfl) ?_
  refine lv_aload_n hx hb dX8_wholeCost_23 rfl (lv_at hl 2 rfl) ?_
  refine lv_aload_n hx hb dX8_wholeCost_24 rfl (lv_at hl 3 rfl) ?_
  refine lv_iload hx hb dX8_wholeCost_25 (lv_at hl 4 rfl) ?_
  obtain ⟨v12, σ13, hm14, h⟩ := bi_e h
  refine xr_callv (res := (v12, σ13)) (va_runV (As := [.ref (za Z (156 + r1)), .ref (za Z (156 + r2)), .int p3]) (rest := []) ⟨hx, hb, hml, hown, hts⟩ (k_X8_goThrough l Z r1 r2 hr1 hr2 σ10 p3 hm14) (cwV 3 hts gX8_wholeCost_X8_goThrough rfl rfl rfl (by decide +kernel) ⟨Nat.le_of_ble_eq_true rfl, Nat.le_of_ble_eq_true rfl⟩) ⟨wx_blind, wr_recv hK hP (k := 206) (by decide) ((tX_Ways Z) _ _ _) rfl, fun U hU hW => ⟨rfl, wx_at hE hJ hP hK hS hU hW⟩⟩ rfl rfl hl.1 rfl (lv_room (Nat.le_of_ble_eq_true rfl)) dX8_wholeCost_27 ⟨Nat.le_of_ble_eq_true rfl, Nat.le_of_ble_eq_true rfl⟩) hS (fun H locs hP hS => ?_)
  have hP : ws_P (zD Z) vwCl 211 (za Z) (tX Z) σ13 H := hP
  refine lv_aload_n hx hb dX8_wholeCost_30 rfl (lv_at hl 0 rfl) ?_
  refine wr_get (C := RX8) (T := TX8) (N := 10) hx hb hts (in_X8_wholeCost_X8) hown hK hP (k := 206) (by decide) ((tX_Ways Z) _ _ _) rfl 0 (by decide) (hts (.fieldLink RX8 13 "TuneSearch$Ways" "cells" "[[I") (by decide +kernel)) (fun _ h9 => h9) rfl dX8_wholeCost_31 ?_
  refine lv_aload_n hx hb dX8_wholeCost_34 rfl (lv_at hl 2 rfl) ?_
  refine wr_get (C := RX4) (T := TX4) (N := 3) hx hb hts (in_X8_wholeCost_X4) hown hK hP (k := (156 + r1)) (by omega) ((tX_NoteRow Z r1 hr1) _ _ _) rfl 2 (by decide) (hts (.fieldLink RX8 40 "TuneSearch$NoteRow" "count" "I") (by decide +kernel)) (fun _ h9 => h9) rfl dX8_wholeCost_35 ?_
  obtain ⟨b15, h⟩ := gB_e h
  have hi16 := inB_lt b15
  refine wr_aald hx hb hK hP (k := 150) (by decide) 5 rfl ((tX_cellsO Z) _ _ _) rfl b15 (row_at hi16) dX8_wholeCost_38 ?_
  refine lv_aload_n hx hb dX8_wholeCost_39 rfl (lv_at hl 3 rfl) ?_
  refine wr_get (C := RX4) (T := TX4) (N := 3) hx hb hts (in_X8_wholeCost_X4) hown hK hP (k := (156 + r2)) (by omega) ((tX_NoteRow Z r2 hr2) _ _ _) rfl 2 (by decide) (hts (.fieldLink RX8 40 "TuneSearch$NoteRow" "count" "I") (by decide +kernel)) (fun _ h9 => h9) rfl dX8_wholeCost_40 ?_
  obtain ⟨b17, h⟩ := gB_e h
  refine wr_iald hx hb hK hP (k := (41 + (σ13.1 (156 + r1) 2).toNatClampNeg)) (by omega) 0 ((tX_cells Z (σ13.1 (156 + r1) 2).toNatClampNeg hi16) _ _ _) rfl b17 dX8_wholeCost_43 ?_
  refine lv_bipush (v := 32) hx hb dX8_wholeCost_44 (by decide) ?_
  refine lv_idiv hx hb dX8_wholeCost_46 (by decide) ?_
  exact xr_iret hx hb hr hlocks hE hJ hK hP hS h dX8_wholeCost_47
def m_X8_wholeCost  (r1 : Nat) (r2 : Nat) (σ : SG) (p3 : Int32) (p4 : Int32) : Option (Int32 × SG) := m_X8_wholeCost_0  r1 r2 σ p3 p4
set_option maxHeartbeats 4000000 in
set_option maxRecDepth 100000 in
theorem k_X8_wholeCost (l : Launch) {E : EF} (Z : ZT)  (r1 : Nat) (r2 : Nat) (hr1 : r1 < 9) (hr2 : r2 < 9) (σ : SG) (p3 : Int32) (p4 : Int32) {res : Int32 × SG} (h : m_X8_wholeCost  r1 r2 σ p3 p4 = some res) : Met l yX8_wholeCost wsX8_wholeCost rm_X8_wholeCost (va_Pc [.ref (za Z 206), .ref (za Z 18), .ref (za Z (156 + r1)), .ref (za Z (156 + r2)), .int p3, .int p4] (wx E (zD Z) vwCl 211 (za Z) (tX Z) (tysX Z) σ)) (xQi E (zD Z) vwCl 211 (za Z) (tX Z) (tysX Z) res) 0 0 (ws_A 211 (za Z)) := by
  refine Met.ofW (cc := cX8_wholeCost) (maxL := 6) (ret := (some .int)) (by decide) rfl ?_
  intro p e s m args below meth c s₁ B hml hv
  obtain ⟨rfl, hE, hJ, hP, hK⟩ := hv
  have hl := lv_entry ([.ref (za Z 206), .ref (za Z 18), .ref (za Z (156 + r1)), .ref (za Z (156 + r2)), .int p3, .int p4]) (n := 6) (Nat.le_of_ble_eq_true rfl)
  rw [lg_entry_eq]
  generalize (lg_sl ([.ref (za Z 206), .ref (za Z 18), .ref (za Z (156 + r1)), .ref (za Z (156 + r2)), .int p3, .int p4]) ++ List.replicate (6 - (lg_sl ([.ref (za Z 206), .ref (za Z 18), .ref (za Z (156 + r1)), .ref (za Z (156 + r2)), .int p3, .int p4])).length) Slot.unset).toArray = ls at hl ⊢
  exact kb_X8_wholeCost_0 Z  r1 r2 hr1 hr2 ⟨B.exec, B.bytes, B.returns, B.notSynchronized, hml, findClass_of_methodNamed B.named, atoms_spec (ws := wsX8_wholeCost) B.pre, hE, hJ, hK⟩ σ p3 p4 h s.heap [] hP va_S.rf ls hl
/-! TuneSearch$Ways.seekEndsBy(LTuneSearch$NoteRow;LTuneSearch$NoteRow;I)V -/
abbrev rm_X8_seekEndsBy : Room := { frames := 4, cells := 0, slots := 0, locals := 104 }
theorem in_X8_seekEndsBy_X4 : ∀ w ∈ wsX40, w ∈ wsX8_seekEndsBy := by decide +kernel
theorem in_X8_seekEndsBy_X8 : ∀ w ∈ wsX80, w ∈ wsX8_seekEndsBy := by decide +kernel
def m_X8_seekEndsBy_106  (r0 : Nat) (r1 : Nat) (c48 : SG → Int32 → Int32 → Option (Unit × SG)) (σ : SG) (l3 : Int32) (l4 : Int32) : Option (Unit × SG) :=
  lS (l4 + 1) (fun v29 => c48 σ l3 v29)
set_option maxHeartbeats 4000000 in
set_option maxRecDepth 100000 in
theorem kb_X8_seekEndsBy_106 {p : Program} {l : Launch} {e : Env} {s : State} {m : MethodId} {args : Array Value} {below : List Frame} {meth : Method} {c : Code} {E : EF} (Z : ZT)  (r0 : Nat) (r1 : Nat) (hr0 : r0 < 9) (hr1 : r1 < 9) (C : cy p s m args meth c cX8_seekEndsBy none 6 RX8 wsX8_seekEndsBy E (zD Z) vwCl 211 (za Z) (tysX Z)) {res : Unit × SG} {c48 : SG → Int32 → Int32 → Option (Unit × SG)} (hc48 : ∀ (σ : SG) (l3 : Int32) (l4 : Int32) , c48 σ l3 l4 = some res → ∀ (H : Heap) (locs : List Loc), ws_P (zD Z) vwCl 211 (za Z) (tX Z) σ H → va_S (ws_A 211 (za Z)) s.heap H locs → ∀ (ls : Array Slot), lv_has ls 6 [(0, .ref (za Z 206)), (1, .ref (za Z (156 + r0))), (2, .ref (za Z (156 + r1))), (3, .int l3), (4, .int l4)] → W p l e rm_X8_seekEndsBy s m args below meth c H locs 0 0 (MQ below (xQv E (zD Z) vwCl 211 (za Z) (tX Z) (tysX Z) res) args s 0 0 (ws_A 211 (za Z))) (F0 m 48 ls [])) : ∀ (σ : SG) (l3 : Int32) (l4 : Int32) , m_X8_seekEndsBy_106  r0 r1 c48 σ l3 l4 = some res → ∀ (H : Heap) (locs : List Loc), ws_P (zD Z) vwCl 211 (za Z) (tX Z) σ H → va_S (ws_A 211 (za Z)) s.heap H locs → ∀ (ls : Array Slot), lv_has ls 6 [(0, .ref (za Z 206)), (1, .ref (za Z (156 + r0))), (2, .ref (za Z (156 + r1))), (3, .int l3), (4, .int l4)] → W p l e rm_X8_seekEndsBy s m args below meth c H locs 0 0 (MQ below (xQv E (zD Z) vwCl 211 (za Z) (tX Z) (tysX Z) res) args s 0 0 (ws_A 211 (za Z))) (F0 m 106 ls []) := by
  have C0 := C
  obtain ⟨hx, hb, hr, hlocks, hml, hown, hts, hE, hJ, hK⟩ := C0
  intro σ l3 l4  h H locs hP hS ls hl
  unfold m_X8_seekEndsBy_106 at h
  obtain ⟨v29, e30, h⟩ := lS_e h
  refine lv_iinc (v := v29) (lv' := [(4, .int v29), (0, .ref (za Z 206)), (1, .ref (za Z (156 + r0))), (2, .ref (za Z (156 + r1))), (3, .int l3)]) hx hb dX8_seekEndsBy_106 hl (k := 4) rfl (by rw [e30]; rfl) (by decide) rfl (fun ls hl => ?_)
  refine lv_goto (tgt := 48) hx hb dX8_seekEndsBy_109 (by decide) ?_
  exact hc48 σ l3 v29 h H locs hP hS ls (lv_sub hl [1, 2, 3, 4, 0] rfl)
def m_X8_seekEndsBy_48_s  (r0 : Nat) (r1 : Nat)  (c48 : SG → Int32 → Int32 → Option (Unit × SG)) (σ : SG) (l3 : Int32) (l4 : Int32) : Option (Unit × SG) :=
  if (σ.1 (156 + r1) 2) < l4 then (some ((), σ)) else (gB (inB (σ.1 (156 + r0) 2) 25) (gB (inB l4 25) (lS (σ.1 (41 + (σ.1 (156 + r0) 2).toNatClampNeg) l4.toNatClampNeg) (fun v19 => gB (inB l4 25) (if ((σ.1 25 l4.toNatClampNeg) / 32) ≤ (v19 / 32) then (m_X8_seekEndsBy_106  r0 r1 c48 σ l3 l4) else (gB (inB l4 25) (lS (sI σ 25 l4.toNatClampNeg v19) (fun σ24 => gB (inB l4 25) (lS (sI σ24 26 l4.toNatClampNeg l3) (fun σ27 => m_X8_seekEndsBy_106  r0 r1 c48 σ27 l3 l4))))))))))
def m_X8_seekEndsBy_48  (r0 : Nat) (r1 : Nat)  : Nat → SG → Int32 → Int32 → Option (Unit × SG)
  | 0, _, _, _ => none
  | n + 1, σ, l3, l4 => m_X8_seekEndsBy_48_s  r0 r1  (m_X8_seekEndsBy_48  r0 r1  n) σ l3 l4
set_option maxHeartbeats 4000000 in
set_option maxRecDepth 100000 in
theorem kb_X8_seekEndsBy_48 {p : Program} {l : Launch} {e : Env} {s : State} {m : MethodId} {args : Array Value} {below : List Frame} {meth : Method} {c : Code} {E : EF} (Z : ZT)  (r0 : Nat) (r1 : Nat) (hr0 : r0 < 9) (hr1 : r1 < 9) (C : cy p s m args meth c cX8_seekEndsBy none 6 RX8 wsX8_seekEndsBy E (zD Z) vwCl 211 (za Z) (tysX Z)) {res : Unit × SG}   : ∀ (n : Nat) (σ : SG) (l3 : Int32) (l4 : Int32) , m_X8_seekEndsBy_48  r0 r1  n σ l3 l4 = some res → ∀ (H : Heap) (locs : List Loc), ws_P (zD Z) vwCl 211 (za Z) (tX Z) σ H → va_S (ws_A 211 (za Z)) s.heap H locs → ∀ (ls : Array Slot), lv_has ls 6 [(0, .ref (za Z 206)), (1, .ref (za Z (156 + r0))), (2, .ref (za Z (156 + r1))), (3, .int l3), (4, .int l4)] → W p l e rm_X8_seekEndsBy s m args below meth c H locs 0 0 (MQ below (xQv E (zD Z) vwCl 211 (za Z) (tX Z) (tysX Z) res) args s 0 0 (ws_A 211 (za Z))) (F0 m 48 ls []) := by
  have C0 := C
  obtain ⟨hx, hb, hr, hlocks, hml, hown, hts, hE, hJ, hK⟩ := C0
  intro n
  induction n with
  | zero =>
    intro σ l3 l4  h
    cases h
  | succ n ih =>
    intro σ l3 l4  h H locs hP hS ls hl
    have hc48 : ∀ (σ : SG) (l3 : Int32) (l4 : Int32) , m_X8_seekEndsBy_48  r0 r1  n σ l3 l4 = some res → ∀ (H : Heap) (locs : List Loc), ws_P (zD Z) vwCl 211 (za Z) (tX Z) σ H → va_S (ws_A 211 (za Z)) s.heap H locs → ∀ (ls : Array Slot), lv_has ls 6 [(0, .ref (za Z 206)), (1, .ref (za Z (156 + r0))), (2, .ref (za Z (156 + r1))), (3, .int l3), (4, .int l4)] → W p l e rm_X8_seekEndsBy s m args below meth c H locs 0 0 (MQ below (xQv E (zD Z) vwCl 211 (za Z) (tX Z) (tysX Z) res) args s 0 0 (ws_A 211 (za Z))) (F0 m 48 ls []) := ih
    have h : m_X8_seekEndsBy_48_s  r0 r1  (m_X8_seekEndsBy_48  r0 r1  n) σ l3 l4 = some res := h
    unfold m_X8_seekEndsBy_48_s at h
    refine lv_iload hx hb dX8_seekEndsBy_48 (lv_at hl 4 rfl) ?_
    refine lv_aload_n hx hb dX8_seekEndsBy_50 rfl (lv_at hl 2 rfl) ?_
    refine wr_get (C := RX4) (T := TX4) (N := 3) hx hb hts (in_X8_seekEndsBy_X4) hown hK hP (k := (156 + r1)) (by omega) ((tX_NoteRow Z r1 hr1) _ _ _) rfl 2 (by decide) (hts (.fieldLink RX8 40 "TuneSearch$NoteRow" "count" "I") (by decide +kernel)) (fun _ h9 => h9) rfl dX8_seekEndsBy_51 ?_
    refine lv_icmp_gt (tgt := 112) hx hb dX8_seekEndsBy_54 (by decide) (fun q15 => ?_) (fun q15 => ?_)
    · have h := if_p h q15
      exact xr_vret hx hb hr hlocks hE hJ hK hP hS h dX8_seekEndsBy_112
    · have h := if_n h q15
      refine lv_aload_n hx hb dX8_seekEndsBy_57 rfl (lv_at hl 0 rfl) ?_
      refine wr_get (C := RX8) (T := TX8) (N := 10) hx hb hts (in_X8_seekEndsBy_X8) hown hK hP (k := 206) (by decide) ((tX_Ways Z) _ _ _) rfl 0 (by decide) (hts (.fieldLink RX8 13 "TuneSearch$Ways" "cells" "[[I") (by decide +kernel)) (fun _ h9 => h9) rfl dX8_seekEndsBy_58 ?_
      refine lv_aload_n hx hb dX8_seekEndsBy_61 rfl (lv_at hl 1 rfl) ?_
      refine wr_get (C := RX4) (T := TX4) (N := 3) hx hb hts (in_X8_seekEndsBy_X4) hown hK hP (k := (156 + r0)) (by omega) ((tX_NoteRow Z r0 hr0) _ _ _) rfl 2 (by decide) (hts (.fieldLink RX8 40 "TuneSearch$NoteRow" "count" "I") (by decide +kernel)) (fun _ h9 => h9) rfl dX8_seekEndsBy_62 ?_
      obtain ⟨b16, h⟩ := gB_e h
      have hi17 := inB_lt b16
      refine wr_aald hx hb hK hP (k := 150) (by decide) 5 rfl ((tX_cellsO Z) _ _ _) rfl b16 (row_at hi17) dX8_seekEndsBy_65 ?_
      refine lv_iload hx hb dX8_seekEndsBy_66 (lv_at hl 4 rfl) ?_
      obtain ⟨b18, h⟩ := gB_e h
      refine wr_iald hx hb hK hP (k := (41 + (σ.1 (156 + r0) 2).toNatClampNeg)) (by omega) 0 ((tX_cells Z (σ.1 (156 + r0) 2).toNatClampNeg hi17) _ _ _) rfl b18 dX8_seekEndsBy_68 ?_
      refine lv_topi (fun v19 e20 => ?_)
      have h := lS_u h e20
      refine lv_istore (lv' := [(5, .int v19), (0, .ref (za Z 206)), (1, .ref (za Z (156 + r0))), (2, .ref (za Z (156 + r1))), (3, .int l3), (4, .int l4)]) hx hb dX8_seekEndsBy_69 hl (by decide) rfl (fun ls hl => ?_)
      refine lv_iload hx hb dX8_seekEndsBy_71 (lv_at hl 0 rfl) ?_
      refine lv_bipush (v := 32) hx hb dX8_seekEndsBy_73 (by decide) ?_
      refine lv_idiv hx hb dX8_seekEndsBy_75 (by decide) ?_
      refine lv_aload_n hx hb dX8_seekEndsBy_76 rfl (lv_at hl 1 rfl) ?_
      refine wr_get (C := RX8) (T := TX8) (N := 10) hx hb hts (in_X8_seekEndsBy_X8) hown hK hP (k := 206) (by decide) ((tX_Ways Z) _ _ _) rfl 2 (by decide) (hts (.fieldLink RX8 21 "TuneSearch$Ways" "endCells" "[I") (by decide +kernel)) (fun _ h9 => h9) rfl dX8_seekEndsBy_77 ?_
      refine lv_iload hx hb dX8_seekEndsBy_80 (lv_at hl 5 rfl) ?_
      obtain ⟨b21, h⟩ := gB_e h
      refine wr_iald hx hb hK hP (k := 25) (by decide) 0 ((tX_I Z 25 (by decide)) _ _ _) rfl b21 dX8_seekEndsBy_82 ?_
      refine lv_bipush (v := 32) hx hb dX8_seekEndsBy_83 (by decide) ?_
      refine lv_idiv hx hb dX8_seekEndsBy_85 (by decide) ?_
      refine lv_icmp_ge (tgt := 106) hx hb dX8_seekEndsBy_86 (by decide) (fun q22 => ?_) (fun q22 => ?_)
      · have h := if_p h q22
        exact kb_X8_seekEndsBy_106 Z  r0 r1 hr0 hr1 C  hc48 σ l3 l4 h H locs hP hS ls (lv_sub hl [1, 2, 3, 4, 5] rfl)
      · have h := if_n h q22
        refine lv_aload_n hx hb dX8_seekEndsBy_89 rfl (lv_at hl 1 rfl) ?_
        refine wr_get (C := RX8) (T := TX8) (N := 10) hx hb hts (in_X8_seekEndsBy_X8) hown hK hP (k := 206) (by decide) ((tX_Ways Z) _ _ _) rfl 2 (by decide) (hts (.fieldLink RX8 21 "TuneSearch$Ways" "endCells" "[I") (by decide +kernel)) (fun _ h9 => h9) rfl dX8_seekEndsBy_90 ?_
        refine lv_iload hx hb dX8_seekEndsBy_93 (lv_at hl 5 rfl) ?_
        refine lv_iload hx hb dX8_seekEndsBy_95 (lv_at hl 0 rfl) ?_
        obtain ⟨b23, h⟩ := gB_e h
        refine wr_iast hx hb hK hP hJ hS (k := 25) (by decide) 0 (tX_I Z 25 (by decide)) rfl b23 dX8_seekEndsBy_97 (fun H locs hP hS => ?_)
        obtain ⟨σ24, e25, h⟩ := lS_e h
        rw [← e25] at hP
        refine lv_aload_n hx hb dX8_seekEndsBy_98 rfl (lv_at hl 1 rfl) ?_
        refine wr_get (C := RX8) (T := TX8) (N := 10) hx hb hts (in_X8_seekEndsBy_X8) hown hK hP (k := 206) (by decide) ((tX_Ways Z) _ _ _) rfl 3 (by decide) (hts (.fieldLink RX8 25 "TuneSearch$Ways" "endShifts" "[I") (by decide +kernel)) (fun _ h9 => h9) rfl dX8_seekEndsBy_99 ?_
        refine lv_iload hx hb dX8_seekEndsBy_102 (lv_at hl 5 rfl) ?_
        refine lv_iload_n hx hb dX8_seekEndsBy_104 rfl (lv_at hl 4 rfl) ?_
        obtain ⟨b26, h⟩ := gB_e h
        refine wr_iast hx hb hK hP hJ hS (k := 26) (by decide) 0 (tX_I Z 26 (by decide)) rfl b26 dX8_seekEndsBy_105 (fun H locs hP hS => ?_)
        obtain ⟨σ27, e28, h⟩ := lS_e h
        rw [← e28] at hP
        exact kb_X8_seekEndsBy_106 Z  r0 r1 hr0 hr1 C  hc48 σ27 l3 l4 h H locs hP hS ls (lv_sub hl [1, 2, 3, 4, 5] rfl)
def m_X8_seekEndsBy_9_s  (r0 : Nat) (r1 : Nat)  (c9 : SG → Int32 → Int32 → Option (Unit × SG)) (σ : SG) (l3 : Int32) (l4 : Int32) : Option (Unit × SG) :=
  if (σ.1 (156 + r1) 2) < l4 then (bi (m_X8_goThrough r0 r1 σ l3) (fun v5 σ6 => m_X8_seekEndsBy_48  r0 r1  FV σ6 l3 0)) else (gB (inB 0 25) (gB (inB l4 25) (lS (sI σ (41 + (0 : Int32).toNatClampNeg) l4.toNatClampNeg (24 - l4)) (fun σ11 => lS (l4 + 1) (fun v13 => c9 σ11 l3 v13)))))
def m_X8_seekEndsBy_9  (r0 : Nat) (r1 : Nat)  : Nat → SG → Int32 → Int32 → Option (Unit × SG)
  | 0, _, _, _ => none
  | n + 1, σ, l3, l4 => m_X8_seekEndsBy_9_s  r0 r1  (m_X8_seekEndsBy_9  r0 r1  n) σ l3 l4
set_option maxHeartbeats 4000000 in
set_option maxRecDepth 100000 in
theorem kb_X8_seekEndsBy_9 {p : Program} {l : Launch} {e : Env} {s : State} {m : MethodId} {args : Array Value} {below : List Frame} {meth : Method} {c : Code} {E : EF} (Z : ZT)  (r0 : Nat) (r1 : Nat) (hr0 : r0 < 9) (hr1 : r1 < 9) (C : cy p s m args meth c cX8_seekEndsBy none 6 RX8 wsX8_seekEndsBy E (zD Z) vwCl 211 (za Z) (tysX Z)) {res : Unit × SG}   : ∀ (n : Nat) (σ : SG) (l3 : Int32) (l4 : Int32) , m_X8_seekEndsBy_9  r0 r1  n σ l3 l4 = some res → ∀ (H : Heap) (locs : List Loc), ws_P (zD Z) vwCl 211 (za Z) (tX Z) σ H → va_S (ws_A 211 (za Z)) s.heap H locs → ∀ (ls : Array Slot), lv_has ls 6 [(0, .ref (za Z 206)), (1, .ref (za Z (156 + r0))), (2, .ref (za Z (156 + r1))), (3, .int l3), (4, .int l4)] → W p l e rm_X8_seekEndsBy s m args below meth c H locs 0 0 (MQ below (xQv E (zD Z) vwCl 211 (za Z) (tX Z) (tysX Z) res) args s 0 0 (ws_A 211 (za Z))) (F0 m 9 ls []) := by
  have C0 := C
  obtain ⟨hx, hb, hr, hlocks, hml, hown, hts, hE, hJ, hK⟩ := C0
  intro n
  induction n with
  | zero =>
    intro σ l3 l4  h
    cases h
  | succ n ih =>
    intro σ l3 l4  h H locs hP hS ls hl
    have hc9 : ∀ (σ : SG) (l3 : Int32) (l4 : Int32) , m_X8_seekEndsBy_9  r0 r1  n σ l3 l4 = some res → ∀ (H : Heap) (locs : List Loc), ws_P (zD Z) vwCl 211 (za Z) (tX Z) σ H → va_S (ws_A 211 (za Z)) s.heap H locs → ∀ (ls : Array Slot), lv_has ls 6 [(0, .ref (za Z 206)), (1, .ref (za Z (156 + r0))), (2, .ref (za Z (156 + r1))), (3, .int l3), (4, .int l4)] → W p l e rm_X8_seekEndsBy s m args below meth c H locs 0 0 (MQ below (xQv E (zD Z) vwCl 211 (za Z) (tX Z) (tysX Z) res) args s 0 0 (ws_A 211 (za Z))) (F0 m 9 ls []) := ih
    have h : m_X8_seekEndsBy_9_s  r0 r1  (m_X8_seekEndsBy_9  r0 r1  n) σ l3 l4 = some res := h
    unfold m_X8_seekEndsBy_9_s at h
    refine lv_iload hx hb dX8_seekEndsBy_9 (lv_at hl 4 rfl) ?_
    refine lv_aload_n hx hb dX8_seekEndsBy_11 rfl (lv_at hl 2 rfl) ?_
    refine wr_get (C := RX4) (T := TX4) (N := 3) hx hb hts (in_X8_seekEndsBy_X4) hown hK hP (k := (156 + r1)) (by omega) ((tX_NoteRow Z r1 hr1) _ _ _) rfl 2 (by decide) (hts (.fieldLink RX8 40 "TuneSearch$NoteRow" "count" "I") (by decide +kernel)) (fun _ h9 => h9) rfl dX8_seekEndsBy_12 ?_
    refine lv_icmp_gt (tgt := 38) hx hb dX8_seekEndsBy_15 (by decide) (fun q4 => ?_) (fun q4 => ?_)
    · have h := if_p h q4
      refine lv_aload_n hx hb dX8_seekEndsBy_38 rfl (lv_at hl 0 rfl) ?_
      refine lv_aload_n hx hb dX8_seekEndsBy_39 rfl (lv_at hl 1 rfl) ?_
      refine lv_aload_n hx hb dX8_seekEndsBy_40 rfl (lv_at hl 2 rfl) ?_
      refine lv_iload_n hx hb dX8_seekEndsBy_41 rfl (lv_at hl 3 rfl) ?_
      obtain ⟨v5, σ6, hm7, h⟩ := bi_e h
      refine xr_callv (res := (v5, σ6)) (va_runV (As := [.ref (za Z (156 + r0)), .ref (za Z (156 + r1)), .int l3]) (rest := []) ⟨hx, hb, hml, hown, hts⟩ (k_X8_goThrough l Z r0 r1 hr0 hr1 σ l3 hm7) (cwV 3 hts gX8_seekEndsBy_X8_goThrough rfl rfl rfl (by decide +kernel) ⟨Nat.le_of_ble_eq_true rfl, Nat.le_of_ble_eq_true rfl⟩) ⟨wx_blind, wr_recv hK hP (k := 206) (by decide) ((tX_Ways Z) _ _ _) rfl, fun U hU hW => ⟨rfl, wx_at hE hJ hP hK hS hU hW⟩⟩ rfl rfl hl.1 rfl (lv_room (Nat.le_of_ble_eq_true rfl)) dX8_seekEndsBy_42 ⟨Nat.le_of_ble_eq_true rfl, Nat.le_of_ble_eq_true rfl⟩) hS (fun H locs hP hS => ?_)
      have hP : ws_P (zD Z) vwCl 211 (za Z) (tX Z) σ6 H := hP
      refine lv_iconst (v := 0) hx hb dX8_seekEndsBy_45 (by decide) ?_
      refine lv_istore (lv' := [(4, .int 0), (0, .ref (za Z 206)), (1, .ref (za Z (156 + r0))), (2, .ref (za Z (156 + r1))), (3, .int l3)]) hx hb dX8_seekEndsBy_46 hl (by decide) rfl (fun ls hl => ?_)
      exact kb_X8_seekEndsBy_48 Z  r0 r1 hr0 hr1 C   FV σ6 l3 0 h H locs hP hS ls (lv_sub hl [1, 2, 3, 4, 0] rfl)
    · have h := if_n h q4
      refine lv_aload_n hx hb dX8_seekEndsBy_18 rfl (lv_at hl 0 rfl) ?_
      refine wr_get (C := RX8) (T := TX8) (N := 10) hx hb hts (in_X8_seekEndsBy_X8) hown hK hP (k := 206) (by decide) ((tX_Ways Z) _ _ _) rfl 0 (by decide) (hts (.fieldLink RX8 13 "TuneSearch$Ways" "cells" "[[I") (by decide +kernel)) (fun _ h9 => h9) rfl dX8_seekEndsBy_19 ?_
      refine lv_iconst (v := 0) hx hb dX8_seekEndsBy_22 (by decide) ?_
      obtain ⟨b8, h⟩ := gB_e h
      have hi9 := inB_lt b8
      refine wr_aald hx hb hK hP (k := 150) (by decide) 5 rfl ((tX_cellsO Z) _ _ _) rfl b8 (row_at hi9) dX8_seekEndsBy_23 ?_
      refine lv_iload hx hb dX8_seekEndsBy_24 (lv_at hl 4 rfl) ?_
      refine lv_bipush (v := 24) hx hb dX8_seekEndsBy_26 (by decide) ?_
      refine lv_iload hx hb dX8_seekEndsBy_28 (lv_at hl 4 rfl) ?_
      refine lv_isub hx hb dX8_seekEndsBy_30 ?_
      obtain ⟨b10, h⟩ := gB_e h
      refine wr_iast hx hb hK hP hJ hS (k := (41 + (0 : Int32).toNatClampNeg)) (by omega) 0 (tX_cells Z (0 : Int32).toNatClampNeg hi9) rfl b10 dX8_seekEndsBy_31 (fun H locs hP hS => ?_)
      obtain ⟨σ11, e12, h⟩ := lS_e h
      rw [← e12] at hP
      obtain ⟨v13, e14, h⟩ := lS_e h
      refine lv_iinc (v := v13) (lv' := [(4, .int v13), (0, .ref (za Z 206)), (1, .ref (za Z (156 + r0))), (2, .ref (za Z (156 + r1))), (3, .int l3)]) hx hb dX8_seekEndsBy_32 hl (k := 4) rfl (by rw [e14]; rfl) (by decide) rfl (fun ls hl => ?_)
      refine lv_goto (tgt := 9) hx hb dX8_seekEndsBy_35 (by decide) ?_
      exact hc9 σ11 l3 v13 h H locs hP hS ls (lv_sub hl [1, 2, 3, 4, 0] rfl)
def m_X8_seekEndsBy_0  (r0 : Nat) (r1 : Nat)  (σ : SG) (p2 : Int32) : Option (Unit × SG) :=
  bi (m_X8_clearCells r0 r1 σ ) (fun v1 σ2 => m_X8_seekEndsBy_9  r0 r1  FV σ2 p2 0)
set_option maxHeartbeats 4000000 in
set_option maxRecDepth 100000 in
theorem kb_X8_seekEndsBy_0 {p : Program} {l : Launch} {e : Env} {s : State} {m : MethodId} {args : Array Value} {below : List Frame} {meth : Method} {c : Code} {E : EF} (Z : ZT)  (r0 : Nat) (r1 : Nat) (hr0 : r0 < 9) (hr1 : r1 < 9) (C : cy p s m args meth c cX8_seekEndsBy none 6 RX8 wsX8_seekEndsBy E (zD Z) vwCl 211 (za Z) (tysX Z)) {res : Unit × SG}   : ∀ (σ : SG) (p2 : Int32) , m_X8_seekEndsBy_0  r0 r1  σ p2 = some res → ∀ (H : Heap) (locs : List Loc), ws_P (zD Z) vwCl 211 (za Z) (tX Z) σ H → va_S (ws_A 211 (za Z)) s.heap H locs → ∀ (ls : Array Slot), lv_has ls 6 [(0, .ref (za Z 206)), (1, .ref (za Z (156 + r0))), (2, .ref (za Z (156 + r1))), (3, .int p2)] → W p l e rm_X8_seekEndsBy s m args below meth c H locs 0 0 (MQ below (xQv E (zD Z) vwCl 211 (za Z) (tX Z) (tysX Z) res) args s 0 0 (ws_A 211 (za Z))) (F0 m 0 ls []) := by
  have C0 := C
  obtain ⟨hx, hb, hr, hlocks, hml, hown, hts, hE, hJ, hK⟩ := C0
  intro σ p2  h H locs hP hS ls hl
  unfold m_X8_seekEndsBy_0 at h
  refine lv_aload_n hx hb dX8_seekEndsBy_0 rfl (lv_at hl 0 rfl) ?_
  refine lv_aload_n hx hb dX8_seekEndsBy_1 rfl (lv_at hl 1 rfl) ?_
  refine lv_aload_n hx hb dX8_seekEndsBy_2 rfl (lv_at hl 2 rfl) ?_
  obtain ⟨v1, σ2, hm3, h⟩ := bi_e h
  refine xr_callv (res := (v1, σ2)) (va_runV (As := [.ref (za Z (156 + r0)), .ref (za Z (156 + r1))]) (rest := []) ⟨hx, hb, hml, hown, hts⟩ (k_X8_clearCells l Z r0 r1 hr0 hr1 σ  hm3) (cwV 2 hts gX8_seekEndsBy_X8_clearCells rfl rfl rfl (by decide +kernel) ⟨Nat.le_of_ble_eq_true rfl, Nat.le_of_ble_eq_true rfl⟩) ⟨wx_blind, wr_recv hK hP (k := 206) (by decide) ((tX_Ways Z) _ _ _) rfl, fun U hU hW => ⟨rfl, wx_at hE hJ hP hK hS hU hW⟩⟩ rfl rfl hl.1 rfl (lv_room (Nat.le_of_ble_eq_true rfl)) dX8_seekEndsBy_3 ⟨Nat.le_of_ble_eq_true rfl, Nat.le_of_ble_eq_true rfl⟩) hS (fun H locs hP hS => ?_)
  have hP : ws_P (zD Z) vwCl 211 (za Z) (tX Z) σ2 H := hP
  refine lv_iconst (v := 0) hx hb dX8_seekEndsBy_6 (by decide) ?_
  refine lv_istore (lv' := [(4, .int 0), (0, .ref (za Z 206)), (1, .ref (za Z (156 + r0))), (2, .ref (za Z (156 + r1))), (3, .int p2)]) hx hb dX8_seekEndsBy_7 hl (by decide) rfl (fun ls hl => ?_)
  exact kb_X8_seekEndsBy_9 Z  r0 r1 hr0 hr1 C   FV σ2 p2 0 h H locs hP hS ls (lv_sub hl [1, 2, 3, 4, 0] rfl)
def m_X8_seekEndsBy  (r0 : Nat) (r1 : Nat) (σ : SG) (p2 : Int32) : Option (Unit × SG) := m_X8_seekEndsBy_0  r0 r1 σ p2
set_option maxHeartbeats 4000000 in
set_option maxRecDepth 100000 in
theorem k_X8_seekEndsBy (l : Launch) {E : EF} (Z : ZT)  (r0 : Nat) (r1 : Nat) (hr0 : r0 < 9) (hr1 : r1 < 9) (σ : SG) (p2 : Int32) {res : Unit × SG} (h : m_X8_seekEndsBy  r0 r1 σ p2 = some res) : Met l yX8_seekEndsBy wsX8_seekEndsBy rm_X8_seekEndsBy (va_Pc [.ref (za Z 206), .ref (za Z (156 + r0)), .ref (za Z (156 + r1)), .int p2] (wx E (zD Z) vwCl 211 (za Z) (tX Z) (tysX Z) σ)) (xQv E (zD Z) vwCl 211 (za Z) (tX Z) (tysX Z) res) 0 0 (ws_A 211 (za Z)) := by
  refine Met.ofW (cc := cX8_seekEndsBy) (maxL := 6) (ret := none) (by decide) rfl ?_
  intro p e s m args below meth c s₁ B hml hv
  obtain ⟨rfl, hE, hJ, hP, hK⟩ := hv
  have hl := lv_entry ([.ref (za Z 206), .ref (za Z (156 + r0)), .ref (za Z (156 + r1)), .int p2]) (n := 6) (Nat.le_of_ble_eq_true rfl)
  rw [lg_entry_eq]
  generalize (lg_sl ([.ref (za Z 206), .ref (za Z (156 + r0)), .ref (za Z (156 + r1)), .int p2]) ++ List.replicate (6 - (lg_sl ([.ref (za Z 206), .ref (za Z (156 + r0)), .ref (za Z (156 + r1)), .int p2])).length) Slot.unset).toArray = ls at hl ⊢
  exact kb_X8_seekEndsBy_0 Z  r0 r1 hr0 hr1 ⟨B.exec, B.bytes, B.returns, B.notSynchronized, hml, findClass_of_methodNamed B.named, atoms_spec (ws := wsX8_seekEndsBy) B.pre, hE, hJ, hK⟩ σ p2 h s.heap [] hP va_S.rf ls hl
/-! TuneSearch$Ways.seekEnds([ILTuneSearch$NoteRow;LTuneSearch$NoteRow;II)V -/
abbrev rm_X8_seekEnds : Room := { frames := 5, cells := 0, slots := 0, locals := 129 }
theorem in_X8_seekEnds_X8 : ∀ w ∈ wsX80, w ∈ wsX8_seekEnds := by decide +kernel
def m_X8_seekEnds_59  (r1 : Nat) (r2 : Nat) (c30 : SG → Int32 → Int32 → Option (Unit × SG)) (σ : SG) (l4 : Int32) (l6 : Int32) : Option (Unit × SG) :=
  lS (l6 + 1) (fun v21 => c30 σ l4 v21)
set_option maxHeartbeats 4000000 in
set_option maxRecDepth 100000 in
theorem kb_X8_seekEnds_59 {p : Program} {l : Launch} {e : Env} {s : State} {m : MethodId} {args : Array Value} {below : List Frame} {meth : Method} {c : Code} {E : EF} (Z : ZT)  (r1 : Nat) (r2 : Nat) (hr1 : r1 < 9) (hr2 : r2 < 9) (C : cy p s m args meth c cX8_seekEnds none 7 RX8 wsX8_seekEnds E (zD Z) vwCl 211 (za Z) (tysX Z)) {res : Unit × SG} {c30 : SG → Int32 → Int32 → Option (Unit × SG)} (hc30 : ∀ (σ : SG) (l4 : Int32) (l6 : Int32) , c30 σ l4 l6 = some res → ∀ (H : Heap) (locs : List Loc), ws_P (zD Z) vwCl 211 (za Z) (tX Z) σ H → va_S (ws_A 211 (za Z)) s.heap H locs → ∀ (ls : Array Slot), lv_has ls 7 [(0, .ref (za Z 206)), (2, .ref (za Z (156 + r1))), (3, .ref (za Z (156 + r2))), (4, .int l4), (6, .int l6)] → W p l e rm_X8_seekEnds s m args below meth c H locs 0 0 (MQ below (xQv E (zD Z) vwCl 211 (za Z) (tX Z) (tysX Z) res) args s 0 0 (ws_A 211 (za Z))) (F0 m 30 ls [])) : ∀ (σ : SG) (l4 : Int32) (l6 : Int32) , m_X8_seekEnds_59  r1 r2 c30 σ l4 l6 = some res → ∀ (H : Heap) (locs : List Loc), ws_P (zD Z) vwCl 211 (za Z) (tX Z) σ H → va_S (ws_A 211 (za Z)) s.heap H locs → ∀ (ls : Array Slot), lv_has ls 7 [(0, .ref (za Z 206)), (2, .ref (za Z (156 + r1))), (3, .ref (za Z (156 + r2))), (4, .int l4), (6, .int l6)] → W p l e rm_X8_seekEnds s m args below meth c H locs 0 0 (MQ below (xQv E (zD Z) vwCl 211 (za Z) (tX Z) (tysX Z) res) args s 0 0 (ws_A 211 (za Z))) (F0 m 59 ls []) := by
  have C0 := C
  obtain ⟨hx, hb, hr, hlocks, hml, hown, hts, hE, hJ, hK⟩ := C0
  intro σ l4 l6  h H locs hP hS ls hl
  unfold m_X8_seekEnds_59 at h
  obtain ⟨v21, e22, h⟩ := lS_e h
  refine lv_iinc (v := v21) (lv' := [(6, .int v21), (0, .ref (za Z 206)), (2, .ref (za Z (156 + r1))), (3, .ref (za Z (156 + r2))), (4, .int l4)]) hx hb dX8_seekEnds_59 hl (k := 4) rfl (by rw [e22]; rfl) (by decide) rfl (fun ls hl => ?_)
  refine lv_goto (tgt := 30) hx hb dX8_seekEnds_62 (by decide) ?_
  exact hc30 σ l4 v21 h H locs hP hS ls (lv_sub hl [1, 2, 3, 4, 0] rfl)
def m_X8_seekEnds_30_s  (r1 : Nat) (r2 : Nat)  (c30 : SG → Int32 → Int32 → Option (Unit × SG)) (σ : SG) (l4 : Int32) (l6 : Int32) : Option (Unit × SG) :=
  if l4 < l6 then (some ((), σ)) else (bi (m_X8_seekEndsBy r1 r2 σ (-l6)) (fun v14 σ15 => if l6 ≤ 0 then (m_X8_seekEnds_59  r1 r2 c30 σ15 l4 l6) else (bi (m_X8_seekEndsBy r1 r2 σ15 l6) (fun v18 σ19 => m_X8_seekEnds_59  r1 r2 c30 σ19 l4 l6))))
def m_X8_seekEnds_30  (r1 : Nat) (r2 : Nat)  : Nat → SG → Int32 → Int32 → Option (Unit × SG)
  | 0, _, _, _ => none
  | n + 1, σ, l4, l6 => m_X8_seekEnds_30_s  r1 r2  (m_X8_seekEnds_30  r1 r2  n) σ l4 l6
set_option maxHeartbeats 4000000 in
set_option maxRecDepth 100000 in
theorem kb_X8_seekEnds_30 {p : Program} {l : Launch} {e : Env} {s : State} {m : MethodId} {args : Array Value} {below : List Frame} {meth : Method} {c : Code} {E : EF} (Z : ZT)  (r1 : Nat) (r2 : Nat) (hr1 : r1 < 9) (hr2 : r2 < 9) (C : cy p s m args meth c cX8_seekEnds none 7 RX8 wsX8_seekEnds E (zD Z) vwCl 211 (za Z) (tysX Z)) {res : Unit × SG}   : ∀ (n : Nat) (σ : SG) (l4 : Int32) (l6 : Int32) , m_X8_seekEnds_30  r1 r2  n σ l4 l6 = some res → ∀ (H : Heap) (locs : List Loc), ws_P (zD Z) vwCl 211 (za Z) (tX Z) σ H → va_S (ws_A 211 (za Z)) s.heap H locs → ∀ (ls : Array Slot), lv_has ls 7 [(0, .ref (za Z 206)), (2, .ref (za Z (156 + r1))), (3, .ref (za Z (156 + r2))), (4, .int l4), (6, .int l6)] → W p l e rm_X8_seekEnds s m args below meth c H locs 0 0 (MQ below (xQv E (zD Z) vwCl 211 (za Z) (tX Z) (tysX Z) res) args s 0 0 (ws_A 211 (za Z))) (F0 m 30 ls []) := by
  have C0 := C
  obtain ⟨hx, hb, hr, hlocks, hml, hown, hts, hE, hJ, hK⟩ := C0
  intro n
  induction n with
  | zero =>
    intro σ l4 l6  h
    cases h
  | succ n ih =>
    intro σ l4 l6  h H locs hP hS ls hl
    have hc30 : ∀ (σ : SG) (l4 : Int32) (l6 : Int32) , m_X8_seekEnds_30  r1 r2  n σ l4 l6 = some res → ∀ (H : Heap) (locs : List Loc), ws_P (zD Z) vwCl 211 (za Z) (tX Z) σ H → va_S (ws_A 211 (za Z)) s.heap H locs → ∀ (ls : Array Slot), lv_has ls 7 [(0, .ref (za Z 206)), (2, .ref (za Z (156 + r1))), (3, .ref (za Z (156 + r2))), (4, .int l4), (6, .int l6)] → W p l e rm_X8_seekEnds s m args below meth c H locs 0 0 (MQ below (xQv E (zD Z) vwCl 211 (za Z) (tX Z) (tysX Z) res) args s 0 0 (ws_A 211 (za Z))) (F0 m 30 ls []) := ih
    have h : m_X8_seekEnds_30_s  r1 r2  (m_X8_seekEnds_30  r1 r2  n) σ l4 l6 = some res := h
    unfold m_X8_seekEnds_30_s at h
    refine lv_iload hx hb dX8_seekEnds_30 (lv_at hl 4 rfl) ?_
    refine lv_iload hx hb dX8_seekEnds_32 (lv_at hl 3 rfl) ?_
    refine lv_icmp_gt (tgt := 65) hx hb dX8_seekEnds_34 (by decide) (fun q13 => ?_) (fun q13 => ?_)
    · have h := if_p h q13
      exact xr_vret hx hb hr hlocks hE hJ hK hP hS h dX8_seekEnds_65
    · have h := if_n h q13
      refine lv_aload_n hx hb dX8_seekEnds_37 rfl (lv_at hl 0 rfl) ?_
      refine lv_aload_n hx hb dX8_seekEnds_38 rfl (lv_at hl 1 rfl) ?_
      refine lv_aload_n hx hb dX8_seekEnds_39 rfl (lv_at hl 2 rfl) ?_
      refine lv_iload hx hb dX8_seekEnds_40 (lv_at hl 4 rfl) ?_
      refine lv_ineg hx hb dX8_seekEnds_42 ?_
      obtain ⟨v14, σ15, hm16, h⟩ := bi_e h
      refine xr_callv (res := (v14, σ15)) (va_runV (As := [.ref (za Z (156 + r1)), .ref (za Z (156 + r2)), .int (-l6)]) (rest := []) ⟨hx, hb, hml, hown, hts⟩ (k_X8_seekEndsBy l Z r1 r2 hr1 hr2 σ (-l6) hm16) (cwV 3 hts gX8_seekEnds_X8_seekEndsBy rfl rfl rfl (by decide +kernel) ⟨Nat.le_of_ble_eq_true rfl, Nat.le_of_ble_eq_true rfl⟩) ⟨wx_blind, wr_recv hK hP (k := 206) (by decide) ((tX_Ways Z) _ _ _) rfl, fun U hU hW => ⟨rfl, wx_at hE hJ hP hK hS hU hW⟩⟩ rfl rfl hl.1 rfl (lv_room (Nat.le_of_ble_eq_true rfl)) dX8_seekEnds_43 ⟨Nat.le_of_ble_eq_true rfl, Nat.le_of_ble_eq_true rfl⟩) hS (fun H locs hP hS => ?_)
      have hP : ws_P (zD Z) vwCl 211 (za Z) (tX Z) σ15 H := hP
      refine lv_iload hx hb dX8_seekEnds_46 (lv_at hl 4 rfl) ?_
      refine lv_if_le (tgt := 59) hx hb dX8_seekEnds_48 (by decide) (fun q17 => ?_) (fun q17 => ?_)
      · have h := if_p h q17
        exact kb_X8_seekEnds_59 Z  r1 r2 hr1 hr2 C  hc30 σ15 l4 l6 h H locs hP hS ls (lv_sub hl [0, 1, 2, 3, 4] rfl)
      · have h := if_n h q17
        refine lv_aload_n hx hb dX8_seekEnds_51 rfl (lv_at hl 0 rfl) ?_
        refine lv_aload_n hx hb dX8_seekEnds_52 rfl (lv_at hl 1 rfl) ?_
        refine lv_aload_n hx hb dX8_seekEnds_53 rfl (lv_at hl 2 rfl) ?_
        refine lv_iload hx hb dX8_seekEnds_54 (lv_at hl 4 rfl) ?_
        obtain ⟨v18, σ19, hm20, h⟩ := bi_e h
        refine xr_callv (res := (v18, σ19)) (va_runV (As := [.ref (za Z (156 + r1)), .ref (za Z (156 + r2)), .int l6]) (rest := []) ⟨hx, hb, hml, hown, hts⟩ (k_X8_seekEndsBy l Z r1 r2 hr1 hr2 σ15 l6 hm20) (cwV 3 hts gX8_seekEnds_X8_seekEndsBy rfl rfl rfl (by decide +kernel) ⟨Nat.le_of_ble_eq_true rfl, Nat.le_of_ble_eq_true rfl⟩) ⟨wx_blind, wr_recv hK hP (k := 206) (by decide) ((tX_Ways Z) _ _ _) rfl, fun U hU hW => ⟨rfl, wx_at hE hJ hP hK hS hU hW⟩⟩ rfl rfl hl.1 rfl (lv_room (Nat.le_of_ble_eq_true rfl)) dX8_seekEnds_56 ⟨Nat.le_of_ble_eq_true rfl, Nat.le_of_ble_eq_true rfl⟩) hS (fun H locs hP hS => ?_)
        have hP : ws_P (zD Z) vwCl 211 (za Z) (tX Z) σ19 H := hP
        exact kb_X8_seekEnds_59 Z  r1 r2 hr1 hr2 C  hc30 σ19 l4 l6 h H locs hP hS ls (lv_sub hl [0, 1, 2, 3, 4] rfl)
def m_X8_seekEnds_0  (r1 : Nat) (r2 : Nat)  (σ : SG) (p3 : Int32) (p4 : Int32) : Option (Unit × SG) :=
  gB (inB 2 8) (bi (m_X4_lengthOfAll r1 σ ) (fun v2 σ3 => lS (if ((σ.1 18 (2 : Int32).toNatClampNeg) * v2) < p4 then ((σ.1 18 (2 : Int32).toNatClampNeg) * v2) else p4) (fun v5 => bi (m_X8_begin  σ3 v5) (fun v7 σ8 => bi (m_J7_fill_53178 25 σ8 2147483647) (fun v10 σ11 => m_X8_seekEnds_30  r1 r2  FV σ11 p3 0)))))
set_option maxHeartbeats 4000000 in
set_option maxRecDepth 100000 in
theorem kb_X8_seekEnds_0 {p : Program} {l : Launch} {e : Env} {s : State} {m : MethodId} {args : Array Value} {below : List Frame} {meth : Method} {c : Code} {E : EF} (Z : ZT)  (r1 : Nat) (r2 : Nat) (hr1 : r1 < 9) (hr2 : r2 < 9) (C : cy p s m args meth c cX8_seekEnds none 7 RX8 wsX8_seekEnds E (zD Z) vwCl 211 (za Z) (tysX Z)) {res : Unit × SG}   : ∀ (σ : SG) (p3 : Int32) (p4 : Int32) , m_X8_seekEnds_0  r1 r2  σ p3 p4 = some res → ∀ (H : Heap) (locs : List Loc), ws_P (zD Z) vwCl 211 (za Z) (tX Z) σ H → va_S (ws_A 211 (za Z)) s.heap H locs → ∀ (ls : Array Slot), lv_has ls 7 [(0, .ref (za Z 206)), (1, .ref (za Z 18)), (2, .ref (za Z (156 + r1))), (3, .ref (za Z (156 + r2))), (4, .int p3), (5, .int p4)] → W p l e rm_X8_seekEnds s m args below meth c H locs 0 0 (MQ below (xQv E (zD Z) vwCl 211 (za Z) (tX Z) (tysX Z) res) args s 0 0 (ws_A 211 (za Z))) (F0 m 0 ls []) := by
  have C0 := C
  obtain ⟨hx, hb, hr, hlocks, hml, hown, hts, hE, hJ, hK⟩ := C0
  intro σ p3 p4  h H locs hP hS ls hl
  unfold m_X8_seekEnds_0 at h
  refine lv_aload_n hx hb dX8_seekEnds_0 rfl (lv_at hl 0 rfl) ?_
  refine lv_aload_n hx hb dX8_seekEnds_1 rfl (lv_at hl 1 rfl) ?_
  refine lv_iload hx hb dX8_seekEnds_2 (lv_at hl 5 rfl) ?_
  refine lv_aload_n hx hb dX8_seekEnds_4 rfl (lv_at hl 1 rfl) ?_
  refine lv_iconst (v := 2) hx hb dX8_seekEnds_5 (by decide) ?_
  obtain ⟨b1, h⟩ := gB_e h
  refine wr_iald hx hb hK hP (k := 18) (by decide) 0 ((tX_I Z 18 (by decide)) _ _ _) rfl b1 dX8_seekEnds_6 ?_
  refine lv_aload_n hx hb dX8_seekEnds_7 rfl (lv_at hl 2 rfl) ?_
  obtain ⟨v2, σ3, hm4, h⟩ := bi_e h
  refine xr_calli (res := (v2, σ3)) (va_runV (As := []) (rest := [.int (σ.1 18 (2 : Int32).toNatClampNeg), .int p4, .ref (za Z 18), .ref (za Z 206)]) ⟨hx, hb, hml, hown, hts⟩ (k_X4_lengthOfAll l Z r1 hr1 σ  hm4) (cwV 0 hts gX8_seekEnds_X4_lengthOfAll rfl rfl rfl (by decide +kernel) ⟨Nat.le_of_ble_eq_true rfl, Nat.le_of_ble_eq_true rfl⟩) ⟨wx_blind, wr_recv hK hP (k := (156 + r1)) (by omega) ((tX_NoteRow Z r1 hr1) _ _ _) rfl, fun U hU hW => ⟨rfl, wx_at hE hJ hP hK hS hU hW⟩⟩ rfl rfl hl.1 rfl (lv_room (Nat.le_of_ble_eq_true rfl)) dX8_seekEnds_8 ⟨Nat.le_of_ble_eq_true rfl, Nat.le_of_ble_eq_true rfl⟩) hS (fun H locs hP hS => ?_)
  have hP : ws_P (zD Z) vwCl 211 (za Z) (tX Z) σ3 H := hP
  refine lv_imul hx hb dX8_seekEnds_11 ?_
  refine va_mmin hx hb (by rw [hml]; exact hl.1.symm) hown (hts (.methodLink RX8 50 Lib.Math.min.name) (by decide +kernel)) (hts (.static Lib.Math.min.name) (by decide +kernel)) (hts (.initialized "java/lang/Math") (by decide +kernel)) (hts (.code Lib.Math.min.name Lib.Math.min.code 2 (some .int)) (by decide +kernel)) (Nat.le_of_ble_eq_true rfl) (Nat.le_of_ble_eq_true rfl) (Nat.le_of_ble_eq_true rfl) (Nat.le_of_ble_eq_true rfl) dX8_seekEnds_12 ?_
  refine lv_topi (fun v5 e6 => ?_)
  have h := lS_u h e6
  obtain ⟨v7, σ8, hm9, h⟩ := bi_e h
  refine xr_callv (res := (v7, σ8)) (va_runV (As := [.ref (za Z 18), .int v5]) (rest := []) ⟨hx, hb, hml, hown, hts⟩ (k_X8_begin l Z   σ3 v5 hm9) (cwV 2 hts gX8_seekEnds_X8_begin rfl rfl rfl (by decide +kernel) ⟨Nat.le_of_ble_eq_true rfl, Nat.le_of_ble_eq_true rfl⟩) ⟨wx_blind, wr_recv hK hP (k := 206) (by decide) ((tX_Ways Z) _ _ _) rfl, fun U hU hW => ⟨rfl, wx_at hE hJ hP hK hS hU hW⟩⟩ rfl rfl hl.1 rfl (lv_room (Nat.le_of_ble_eq_true rfl)) dX8_seekEnds_15 ⟨Nat.le_of_ble_eq_true rfl, Nat.le_of_ble_eq_true rfl⟩) hS (fun H locs hP hS => ?_)
  have hP : ws_P (zD Z) vwCl 211 (za Z) (tX Z) σ8 H := hP
  refine lv_aload_n hx hb dX8_seekEnds_18 rfl (lv_at hl 0 rfl) ?_
  refine wr_get (C := RX8) (T := TX8) (N := 10) hx hb hts (in_X8_seekEnds_X8) hown hK hP (k := 206) (by decide) ((tX_Ways Z) _ _ _) rfl 2 (by decide) (hts (.fieldLink RX8 21 "TuneSearch$Ways" "endCells" "[I") (by decide +kernel)) (fun _ h9 => h9) rfl dX8_seekEnds_19 ?_
  refine lv_ldc (v := 2147483647) hx hb hown (hts (.constant RX8 56 2147483647) (by decide +kernel)) dX8_seekEnds_22 ?_
  obtain ⟨v10, σ11, hm12, h⟩ := bi_e h
  refine xr_callv (res := (v10, σ11)) (va_runS (As := [.ref (za Z 25), .int 2147483647]) (rest := []) ⟨hx, hb, hml, hown, hts⟩ (k_J7_fill_53178 l Z 25 (by decide) σ8 2147483647 hm12) (va_cwS 2 hts gX8_seekEnds_J7_fill_53178 rfl rfl rfl (by decide +kernel) ⟨Nat.le_of_ble_eq_true rfl, Nat.le_of_ble_eq_true rfl⟩) ⟨wx_blind, fun U hU hW => ⟨rfl, wx_at hE hJ hP hK hS hU hW⟩⟩ rfl rfl hl.1 rfl (lv_room (Nat.le_of_ble_eq_true rfl)) dX8_seekEnds_24 ⟨Nat.le_of_ble_eq_true rfl, Nat.le_of_ble_eq_true rfl⟩) hS (fun H locs hP hS => ?_)
  have hP : ws_P (zD Z) vwCl 211 (za Z) (tX Z) σ11 H := hP
  refine lv_iconst (v := 0) hx hb dX8_seekEnds_27 (by decide) ?_
  refine lv_istore (lv' := [(6, .int 0), (0, .ref (za Z 206)), (1, .ref (za Z 18)), (2, .ref (za Z (156 + r1))), (3, .ref (za Z (156 + r2))), (4, .int p3), (5, .int p4)]) hx hb dX8_seekEnds_28 hl (by decide) rfl (fun ls hl => ?_)
  exact kb_X8_seekEnds_30 Z  r1 r2 hr1 hr2 C   FV σ11 p3 0 h H locs hP hS ls (lv_sub hl [1, 3, 4, 5, 0] rfl)
def m_X8_seekEnds  (r1 : Nat) (r2 : Nat) (σ : SG) (p3 : Int32) (p4 : Int32) : Option (Unit × SG) := m_X8_seekEnds_0  r1 r2 σ p3 p4
set_option maxHeartbeats 4000000 in
set_option maxRecDepth 100000 in
theorem k_X8_seekEnds (l : Launch) {E : EF} (Z : ZT)  (r1 : Nat) (r2 : Nat) (hr1 : r1 < 9) (hr2 : r2 < 9) (σ : SG) (p3 : Int32) (p4 : Int32) {res : Unit × SG} (h : m_X8_seekEnds  r1 r2 σ p3 p4 = some res) : Met l yX8_seekEnds wsX8_seekEnds rm_X8_seekEnds (va_Pc [.ref (za Z 206), .ref (za Z 18), .ref (za Z (156 + r1)), .ref (za Z (156 + r2)), .int p3, .int p4] (wx E (zD Z) vwCl 211 (za Z) (tX Z) (tysX Z) σ)) (xQv E (zD Z) vwCl 211 (za Z) (tX Z) (tysX Z) res) 0 0 (ws_A 211 (za Z)) := by
  refine Met.ofW (cc := cX8_seekEnds) (maxL := 7) (ret := none) (by decide) rfl ?_
  intro p e s m args below meth c s₁ B hml hv
  obtain ⟨rfl, hE, hJ, hP, hK⟩ := hv
  have hl := lv_entry ([.ref (za Z 206), .ref (za Z 18), .ref (za Z (156 + r1)), .ref (za Z (156 + r2)), .int p3, .int p4]) (n := 7) (Nat.le_of_ble_eq_true rfl)
  rw [lg_entry_eq]
  generalize (lg_sl ([.ref (za Z 206), .ref (za Z 18), .ref (za Z (156 + r1)), .ref (za Z (156 + r2)), .int p3, .int p4]) ++ List.replicate (7 - (lg_sl ([.ref (za Z 206), .ref (za Z 18), .ref (za Z (156 + r1)), .ref (za Z (156 + r2)), .int p3, .int p4])).length) Slot.unset).toArray = ls at hl ⊢
  exact kb_X8_seekEnds_0 Z  r1 r2 hr1 hr2 ⟨B.exec, B.bytes, B.returns, B.notSynchronized, hml, findClass_of_methodNamed B.named, atoms_spec (ws := wsX8_seekEnds) B.pre, hE, hJ, hK⟩ σ p3 p4 h s.heap [] hP va_S.rf ls hl
/-! TuneSearch$Ways.endCost(I)I -/
abbrev rm_X8_endCost : Room := { frames := 0, cells := 0, slots := 0, locals := 0 }
theorem in_X8_endCost_X8 : ∀ w ∈ wsX80, w ∈ wsX8_endCost := by decide +kernel
def m_X8_endCost_0    (σ : SG) (p0 : Int32) : Option (Int32 × SG) :=
  gB (inB p0 25) (some ((σ.1 25 p0.toNatClampNeg) / 32, σ))
set_option maxHeartbeats 4000000 in
set_option maxRecDepth 100000 in
theorem kb_X8_endCost_0 {p : Program} {l : Launch} {e : Env} {s : State} {m : MethodId} {args : Array Value} {below : List Frame} {meth : Method} {c : Code} {E : EF} (Z : ZT)    (C : cy p s m args meth c cX8_endCost (some .int) 2 RX8 wsX8_endCost E (zD Z) vwCl 211 (za Z) (tysX Z)) {res : Int32 × SG}   : ∀ (σ : SG) (p0 : Int32) , m_X8_endCost_0    σ p0 = some res → ∀ (H : Heap) (locs : List Loc), ws_P (zD Z) vwCl 211 (za Z) (tX Z) σ H → va_S (ws_A 211 (za Z)) s.heap H locs → ∀ (ls : Array Slot), lv_has ls 2 [(0, .ref (za Z 206)), (1, .int p0)] → W p l e rm_X8_endCost s m args below meth c H locs 0 0 (MQ below (xQi E (zD Z) vwCl 211 (za Z) (tX Z) (tysX Z) res) args s 0 0 (ws_A 211 (za Z))) (F0 m 0 ls []) := by
  have C0 := C
  obtain ⟨hx, hb, hr, hlocks, hml, hown, hts, hE, hJ, hK⟩ := C0
  intro σ p0  h H locs hP hS ls hl
  unfold m_X8_endCost_0 at h
  refine lv_aload_n hx hb dX8_endCost_0 rfl (lv_at hl 0 rfl) ?_
  refine wr_get (C := RX8) (T := TX8) (N := 10) hx hb hts (in_X8_endCost_X8) hown hK hP (k := 206) (by decide) ((tX_Ways Z) _ _ _) rfl 2 (by decide) (hts (.fieldLink RX8 21 "TuneSearch$Ways" "endCells" "[I") (by decide +kernel)) (fun _ h9 => h9) rfl dX8_endCost_1 ?_
  refine lv_iload_n hx hb dX8_endCost_4 rfl (lv_at hl 1 rfl) ?_
  obtain ⟨b1, h⟩ := gB_e h
  refine wr_iald hx hb hK hP (k := 25) (by decide) 0 ((tX_I Z 25 (by decide)) _ _ _) rfl b1 dX8_endCost_5 ?_
  refine lv_bipush (v := 32) hx hb dX8_endCost_6 (by decide) ?_
  refine lv_idiv hx hb dX8_endCost_8 (by decide) ?_
  exact xr_iret hx hb hr hlocks hE hJ hK hP hS h dX8_endCost_9
def m_X8_endCost   (σ : SG) (p0 : Int32) : Option (Int32 × SG) := m_X8_endCost_0   σ p0
set_option maxHeartbeats 4000000 in
set_option maxRecDepth 100000 in
theorem k_X8_endCost (l : Launch) {E : EF} (Z : ZT)    (σ : SG) (p0 : Int32) {res : Int32 × SG} (h : m_X8_endCost   σ p0 = some res) : Met l yX8_endCost wsX8_endCost rm_X8_endCost (va_Pc [.ref (za Z 206), .int p0] (wx E (zD Z) vwCl 211 (za Z) (tX Z) (tysX Z) σ)) (xQi E (zD Z) vwCl 211 (za Z) (tX Z) (tysX Z) res) 0 0 (ws_A 211 (za Z)) := by
  refine Met.ofW (cc := cX8_endCost) (maxL := 2) (ret := (some .int)) (by decide) rfl ?_
  intro p e s m args below meth c s₁ B hml hv
  obtain ⟨rfl, hE, hJ, hP, hK⟩ := hv
  have hl := lv_entry ([.ref (za Z 206), .int p0]) (n := 2) (Nat.le_of_ble_eq_true rfl)
  rw [lg_entry_eq]
  generalize (lg_sl ([.ref (za Z 206), .int p0]) ++ List.replicate (2 - (lg_sl ([.ref (za Z 206), .int p0])).length) Slot.unset).toArray = ls at hl ⊢
  exact kb_X8_endCost_0 Z    ⟨B.exec, B.bytes, B.returns, B.notSynchronized, hml, findClass_of_methodNamed B.named, atoms_spec (ws := wsX8_endCost) B.pre, hE, hJ, hK⟩ σ p0 h s.heap [] hP va_S.rf ls hl
/-! TuneSearch$Ways.endPlace(I)I -/
abbrev rm_X8_endPlace : Room := { frames := 0, cells := 0, slots := 0, locals := 0 }
theorem in_X8_endPlace_X8 : ∀ w ∈ wsX80, w ∈ wsX8_endPlace := by decide +kernel
def m_X8_endPlace_0    (σ : SG) (p0 : Int32) : Option (Int32 × SG) :=
  gB (inB p0 25) (some (24 - ((σ.1 25 p0.toNatClampNeg) - (σ.1 25 p0.toNatClampNeg) / 32 * 32), σ))
set_option maxHeartbeats 4000000 in
set_option maxRecDepth 100000 in
theorem kb_X8_endPlace_0 {p : Program} {l : Launch} {e : Env} {s : State} {m : MethodId} {args : Array Value} {below : List Frame} {meth : Method} {c : Code} {E : EF} (Z : ZT)    (C : cy p s m args meth c cX8_endPlace (some .int) 2 RX8 wsX8_endPlace E (zD Z) vwCl 211 (za Z) (tysX Z)) {res : Int32 × SG}   : ∀ (σ : SG) (p0 : Int32) , m_X8_endPlace_0    σ p0 = some res → ∀ (H : Heap) (locs : List Loc), ws_P (zD Z) vwCl 211 (za Z) (tX Z) σ H → va_S (ws_A 211 (za Z)) s.heap H locs → ∀ (ls : Array Slot), lv_has ls 2 [(0, .ref (za Z 206)), (1, .int p0)] → W p l e rm_X8_endPlace s m args below meth c H locs 0 0 (MQ below (xQi E (zD Z) vwCl 211 (za Z) (tX Z) (tysX Z) res) args s 0 0 (ws_A 211 (za Z))) (F0 m 0 ls []) := by
  have C0 := C
  obtain ⟨hx, hb, hr, hlocks, hml, hown, hts, hE, hJ, hK⟩ := C0
  intro σ p0  h H locs hP hS ls hl
  unfold m_X8_endPlace_0 at h
  refine lv_bipush (v := 24) hx hb dX8_endPlace_0 (by decide) ?_
  refine lv_aload_n hx hb dX8_endPlace_2 rfl (lv_at hl 0 rfl) ?_
  refine wr_get (C := RX8) (T := TX8) (N := 10) hx hb hts (in_X8_endPlace_X8) hown hK hP (k := 206) (by decide) ((tX_Ways Z) _ _ _) rfl 2 (by decide) (hts (.fieldLink RX8 21 "TuneSearch$Ways" "endCells" "[I") (by decide +kernel)) (fun _ h9 => h9) rfl dX8_endPlace_3 ?_
  refine lv_iload_n hx hb dX8_endPlace_6 rfl (lv_at hl 1 rfl) ?_
  obtain ⟨b1, h⟩ := gB_e h
  refine wr_iald hx hb hK hP (k := 25) (by decide) 0 ((tX_I Z 25 (by decide)) _ _ _) rfl b1 dX8_endPlace_7 ?_
  refine lv_bipush (v := 32) hx hb dX8_endPlace_8 (by decide) ?_
  refine lv_irem hx hb dX8_endPlace_10 (by decide) ?_
  refine lv_isub hx hb dX8_endPlace_11 ?_
  exact xr_iret hx hb hr hlocks hE hJ hK hP hS h dX8_endPlace_12
def m_X8_endPlace   (σ : SG) (p0 : Int32) : Option (Int32 × SG) := m_X8_endPlace_0   σ p0
set_option maxHeartbeats 4000000 in
set_option maxRecDepth 100000 in
theorem k_X8_endPlace (l : Launch) {E : EF} (Z : ZT)    (σ : SG) (p0 : Int32) {res : Int32 × SG} (h : m_X8_endPlace   σ p0 = some res) : Met l yX8_endPlace wsX8_endPlace rm_X8_endPlace (va_Pc [.ref (za Z 206), .int p0] (wx E (zD Z) vwCl 211 (za Z) (tX Z) (tysX Z) σ)) (xQi E (zD Z) vwCl 211 (za Z) (tX Z) (tysX Z) res) 0 0 (ws_A 211 (za Z)) := by
  refine Met.ofW (cc := cX8_endPlace) (maxL := 2) (ret := (some .int)) (by decide) rfl ?_
  intro p e s m args below meth c s₁ B hml hv
  obtain ⟨rfl, hE, hJ, hP, hK⟩ := hv
  have hl := lv_entry ([.ref (za Z 206), .int p0]) (n := 2) (Nat.le_of_ble_eq_true rfl)
  rw [lg_entry_eq]
  generalize (lg_sl ([.ref (za Z 206), .int p0]) ++ List.replicate (2 - (lg_sl ([.ref (za Z 206), .int p0])).length) Slot.unset).toArray = ls at hl ⊢
  exact kb_X8_endPlace_0 Z    ⟨B.exec, B.bytes, B.returns, B.notSynchronized, hml, findClass_of_methodNamed B.named, atoms_spec (ws := wsX8_endPlace) B.pre, hE, hJ, hK⟩ σ p0 h s.heap [] hP va_S.rf ls hl
/-! TuneSearch$Ways.endShift(I)I -/
abbrev rm_X8_endShift : Room := { frames := 0, cells := 0, slots := 0, locals := 0 }
theorem in_X8_endShift_X8 : ∀ w ∈ wsX80, w ∈ wsX8_endShift := by decide +kernel
def m_X8_endShift_0    (σ : SG) (p0 : Int32) : Option (Int32 × SG) :=
  gB (inB p0 25) (some (σ.1 26 p0.toNatClampNeg, σ))
set_option maxHeartbeats 4000000 in
set_option maxRecDepth 100000 in
theorem kb_X8_endShift_0 {p : Program} {l : Launch} {e : Env} {s : State} {m : MethodId} {args : Array Value} {below : List Frame} {meth : Method} {c : Code} {E : EF} (Z : ZT)    (C : cy p s m args meth c cX8_endShift (some .int) 2 RX8 wsX8_endShift E (zD Z) vwCl 211 (za Z) (tysX Z)) {res : Int32 × SG}   : ∀ (σ : SG) (p0 : Int32) , m_X8_endShift_0    σ p0 = some res → ∀ (H : Heap) (locs : List Loc), ws_P (zD Z) vwCl 211 (za Z) (tX Z) σ H → va_S (ws_A 211 (za Z)) s.heap H locs → ∀ (ls : Array Slot), lv_has ls 2 [(0, .ref (za Z 206)), (1, .int p0)] → W p l e rm_X8_endShift s m args below meth c H locs 0 0 (MQ below (xQi E (zD Z) vwCl 211 (za Z) (tX Z) (tysX Z) res) args s 0 0 (ws_A 211 (za Z))) (F0 m 0 ls []) := by
  have C0 := C
  obtain ⟨hx, hb, hr, hlocks, hml, hown, hts, hE, hJ, hK⟩ := C0
  intro σ p0  h H locs hP hS ls hl
  unfold m_X8_endShift_0 at h
  refine lv_aload_n hx hb dX8_endShift_0 rfl (lv_at hl 0 rfl) ?_
  refine wr_get (C := RX8) (T := TX8) (N := 10) hx hb hts (in_X8_endShift_X8) hown hK hP (k := 206) (by decide) ((tX_Ways Z) _ _ _) rfl 3 (by decide) (hts (.fieldLink RX8 25 "TuneSearch$Ways" "endShifts" "[I") (by decide +kernel)) (fun _ h9 => h9) rfl dX8_endShift_1 ?_
  refine lv_iload_n hx hb dX8_endShift_4 rfl (lv_at hl 1 rfl) ?_
  obtain ⟨b1, h⟩ := gB_e h
  refine wr_iald hx hb hK hP (k := 26) (by decide) 0 ((tX_I Z 26 (by decide)) _ _ _) rfl b1 dX8_endShift_5 ?_
  exact xr_iret hx hb hr hlocks hE hJ hK hP hS h dX8_endShift_6
def m_X8_endShift   (σ : SG) (p0 : Int32) : Option (Int32 × SG) := m_X8_endShift_0   σ p0
set_option maxHeartbeats 4000000 in
set_option maxRecDepth 100000 in
theorem k_X8_endShift (l : Launch) {E : EF} (Z : ZT)    (σ : SG) (p0 : Int32) {res : Int32 × SG} (h : m_X8_endShift   σ p0 = some res) : Met l yX8_endShift wsX8_endShift rm_X8_endShift (va_Pc [.ref (za Z 206), .int p0] (wx E (zD Z) vwCl 211 (za Z) (tX Z) (tysX Z) σ)) (xQi E (zD Z) vwCl 211 (za Z) (tX Z) (tysX Z) res) 0 0 (ws_A 211 (za Z)) := by
  refine Met.ofW (cc := cX8_endShift) (maxL := 2) (ret := (some .int)) (by decide) rfl ?_
  intro p e s m args below meth c s₁ B hml hv
  obtain ⟨rfl, hE, hJ, hP, hK⟩ := hv
  have hl := lv_entry ([.ref (za Z 206), .int p0]) (n := 2) (Nat.le_of_ble_eq_true rfl)
  rw [lg_entry_eq]
  generalize (lg_sl ([.ref (za Z 206), .int p0]) ++ List.replicate (2 - (lg_sl ([.ref (za Z 206), .int p0])).length) Slot.unset).toArray = ls at hl ⊢
  exact kb_X8_endShift_0 Z    ⟨B.exec, B.bytes, B.returns, B.notSynchronized, hml, findClass_of_methodNamed B.named, atoms_spec (ws := wsX8_endShift) B.pre, hE, hJ, hK⟩ σ p0 h s.heap [] hP va_S.rf ls hl
