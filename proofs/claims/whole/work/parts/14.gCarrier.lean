/-! TuneSearch$Carrier.load(LTuneSearch$NoteRow;LTuneSearch$NoteRow;)V -/
abbrev rm_X0_load : Room := { frames := 2, cells := 0, slots := 0, locals := 44 }
theorem in_X0_load_X0 : ∀ w ∈ wsX00, w ∈ wsX0_load := by decide +kernel
theorem in_X0_load_X3 : ∀ w ∈ wsX30, w ∈ wsX0_load := by decide +kernel
def m_X0_load_0  (r0 : Nat) (r1 : Nat)  (σ : SG)  : Option (Unit × SG) :=
  bi (m_X3_fill 0 r0 σ ) (fun v1 σ2 => bi (m_X3_fill 1 r1 σ2 ) (fun v4 σ5 => if (σ5.1 (208 + 0) 4) ≤ (σ5.1 (208 + 1) 4) then (some ((), σ5)) else (bi (m_X3_fill 0 r1 σ5 ) (fun v8 σ9 => bi (m_X3_fill 1 r0 σ9 ) (fun v11 σ12 => some ((), σ12))))))
set_option maxHeartbeats 4000000 in
set_option maxRecDepth 100000 in
theorem kb_X0_load_0 {p : Program} {l : Launch} {e : Env} {s : State} {m : MethodId} {args : Array Value} {below : List Frame} {meth : Method} {c : Code} {E : EF} (Z : ZT)  (r0 : Nat) (r1 : Nat) (hr0 : r0 < 9) (hr1 : r1 < 9) (C : cy p s m args meth c cX0_load none 3 RX0 wsX0_load E (zD Z) vwCl 211 (za Z) (tysX Z)) {res : Unit × SG}   : ∀ (σ : SG)  , m_X0_load_0  r0 r1  σ  = some res → ∀ (H : Heap) (locs : List Loc), ws_P (zD Z) vwCl 211 (za Z) (tX Z) σ H → va_S (ws_A 211 (za Z)) s.heap H locs → ∀ (ls : Array Slot), lv_has ls 3 [(0, .ref (za Z 210)), (1, .ref (za Z (156 + r0))), (2, .ref (za Z (156 + r1)))] → W p l e rm_X0_load s m args below meth c H locs 0 0 (MQ below (xQv E (zD Z) vwCl 211 (za Z) (tX Z) (tysX Z) res) args s 0 0 (ws_A 211 (za Z))) (F0 m 0 ls []) := by
  have C0 := C
  obtain ⟨hx, hb, hr, hlocks, hml, hown, hts, hE, hJ, hK⟩ := C0
  intro σ   h H locs hP hS ls hl
  unfold m_X0_load_0 at h
  refine lv_aload_n hx hb dX0_load_0 rfl (lv_at hl 0 rfl) ?_
  refine wr_get (C := RX0) (T := TX0) (N := 11) hx hb hts (in_X0_load_X0) hown hK hP (k := 210) (by decide) ((tX_Carrier Z) _ _ _) rfl 0 (by decide) (hts (.fieldLink RX0 14 "TuneSearch$Carrier" "givers" "LTuneSearch$Load;") (by decide +kernel)) (fun _ h9 => h9) rfl dX0_load_1 ?_
  refine lv_aload_n hx hb dX0_load_4 rfl (lv_at hl 1 rfl) ?_
  obtain ⟨v1, σ2, hm3, h⟩ := bi_e h
  refine xr_callv (res := (v1, σ2)) (va_runV (As := [.ref (za Z (156 + r0))]) (rest := []) ⟨hx, hb, hml, hown, hts⟩ (k_X3_fill l Z 0 r0 (by decide) hr0 σ  hm3) (cwV 1 hts gX0_load_X3_fill rfl rfl rfl (by decide +kernel) ⟨Nat.le_of_ble_eq_true rfl, Nat.le_of_ble_eq_true rfl⟩) ⟨wx_blind, wr_recv hK hP (k := (208 + 0)) (by omega) ((tX_Load Z 0 (by decide)) _ _ _) rfl, fun U hU hW => ⟨rfl, wx_at hE hJ hP hK hS hU hW⟩⟩ rfl rfl hl.1 rfl (lv_room (Nat.le_of_ble_eq_true rfl)) dX0_load_5 ⟨Nat.le_of_ble_eq_true rfl, Nat.le_of_ble_eq_true rfl⟩) hS (fun H locs hP hS => ?_)
  have hP : ws_P (zD Z) vwCl 211 (za Z) (tX Z) σ2 H := hP
  refine lv_aload_n hx hb dX0_load_8 rfl (lv_at hl 0 rfl) ?_
  refine wr_get (C := RX0) (T := TX0) (N := 11) hx hb hts (in_X0_load_X0) hown hK hP (k := 210) (by decide) ((tX_Carrier Z) _ _ _) rfl 1 (by decide) (hts (.fieldLink RX0 20 "TuneSearch$Carrier" "takers" "LTuneSearch$Load;") (by decide +kernel)) (fun _ h9 => h9) rfl dX0_load_9 ?_
  refine lv_aload_n hx hb dX0_load_12 rfl (lv_at hl 2 rfl) ?_
  obtain ⟨v4, σ5, hm6, h⟩ := bi_e h
  refine xr_callv (res := (v4, σ5)) (va_runV (As := [.ref (za Z (156 + r1))]) (rest := []) ⟨hx, hb, hml, hown, hts⟩ (k_X3_fill l Z 1 r1 (by decide) hr1 σ2  hm6) (cwV 1 hts gX0_load_X3_fill rfl rfl rfl (by decide +kernel) ⟨Nat.le_of_ble_eq_true rfl, Nat.le_of_ble_eq_true rfl⟩) ⟨wx_blind, wr_recv hK hP (k := (208 + 1)) (by omega) ((tX_Load Z 1 (by decide)) _ _ _) rfl, fun U hU hW => ⟨rfl, wx_at hE hJ hP hK hS hU hW⟩⟩ rfl rfl hl.1 rfl (lv_room (Nat.le_of_ble_eq_true rfl)) dX0_load_13 ⟨Nat.le_of_ble_eq_true rfl, Nat.le_of_ble_eq_true rfl⟩) hS (fun H locs hP hS => ?_)
  have hP : ws_P (zD Z) vwCl 211 (za Z) (tX Z) σ5 H := hP
  refine lv_aload_n hx hb dX0_load_16 rfl (lv_at hl 0 rfl) ?_
  refine wr_get (C := RX0) (T := TX0) (N := 11) hx hb hts (in_X0_load_X0) hown hK hP (k := 210) (by decide) ((tX_Carrier Z) _ _ _) rfl 0 (by decide) (hts (.fieldLink RX0 14 "TuneSearch$Carrier" "givers" "LTuneSearch$Load;") (by decide +kernel)) (fun _ h9 => h9) rfl dX0_load_17 ?_
  refine wr_get (C := RX3) (T := TX3) (N := 5) hx hb hts (in_X0_load_X3) hown hK hP (k := (208 + 0)) (by omega) ((tX_Load Z 0 (by decide)) _ _ _) rfl 4 (by decide) (hts (.fieldLink RX0 58 "TuneSearch$Load" "units" "I") (by decide +kernel)) (fun _ h9 => h9) rfl dX0_load_20 ?_
  refine lv_aload_n hx hb dX0_load_23 rfl (lv_at hl 0 rfl) ?_
  refine wr_get (C := RX0) (T := TX0) (N := 11) hx hb hts (in_X0_load_X0) hown hK hP (k := 210) (by decide) ((tX_Carrier Z) _ _ _) rfl 1 (by decide) (hts (.fieldLink RX0 20 "TuneSearch$Carrier" "takers" "LTuneSearch$Load;") (by decide +kernel)) (fun _ h9 => h9) rfl dX0_load_24 ?_
  refine wr_get (C := RX3) (T := TX3) (N := 5) hx hb hts (in_X0_load_X3) hown hK hP (k := (208 + 1)) (by omega) ((tX_Load Z 1 (by decide)) _ _ _) rfl 4 (by decide) (hts (.fieldLink RX0 58 "TuneSearch$Load" "units" "I") (by decide +kernel)) (fun _ h9 => h9) rfl dX0_load_27 ?_
  refine lv_icmp_le (tgt := 49) hx hb dX0_load_30 (by decide) (fun q7 => ?_) (fun q7 => ?_)
  · have h := if_p h q7
    exact xr_vret hx hb hr hlocks hE hJ hK hP hS h dX0_load_49
  · have h := if_n h q7
    refine lv_aload_n hx hb dX0_load_33 rfl (lv_at hl 0 rfl) ?_
    refine wr_get (C := RX0) (T := TX0) (N := 11) hx hb hts (in_X0_load_X0) hown hK hP (k := 210) (by decide) ((tX_Carrier Z) _ _ _) rfl 0 (by decide) (hts (.fieldLink RX0 14 "TuneSearch$Carrier" "givers" "LTuneSearch$Load;") (by decide +kernel)) (fun _ h9 => h9) rfl dX0_load_34 ?_
    refine lv_aload_n hx hb dX0_load_37 rfl (lv_at hl 2 rfl) ?_
    obtain ⟨v8, σ9, hm10, h⟩ := bi_e h
    refine xr_callv (res := (v8, σ9)) (va_runV (As := [.ref (za Z (156 + r1))]) (rest := []) ⟨hx, hb, hml, hown, hts⟩ (k_X3_fill l Z 0 r1 (by decide) hr1 σ5  hm10) (cwV 1 hts gX0_load_X3_fill rfl rfl rfl (by decide +kernel) ⟨Nat.le_of_ble_eq_true rfl, Nat.le_of_ble_eq_true rfl⟩) ⟨wx_blind, wr_recv hK hP (k := (208 + 0)) (by omega) ((tX_Load Z 0 (by decide)) _ _ _) rfl, fun U hU hW => ⟨rfl, wx_at hE hJ hP hK hS hU hW⟩⟩ rfl rfl hl.1 rfl (lv_room (Nat.le_of_ble_eq_true rfl)) dX0_load_38 ⟨Nat.le_of_ble_eq_true rfl, Nat.le_of_ble_eq_true rfl⟩) hS (fun H locs hP hS => ?_)
    have hP : ws_P (zD Z) vwCl 211 (za Z) (tX Z) σ9 H := hP
    refine lv_aload_n hx hb dX0_load_41 rfl (lv_at hl 0 rfl) ?_
    refine wr_get (C := RX0) (T := TX0) (N := 11) hx hb hts (in_X0_load_X0) hown hK hP (k := 210) (by decide) ((tX_Carrier Z) _ _ _) rfl 1 (by decide) (hts (.fieldLink RX0 20 "TuneSearch$Carrier" "takers" "LTuneSearch$Load;") (by decide +kernel)) (fun _ h9 => h9) rfl dX0_load_42 ?_
    refine lv_aload_n hx hb dX0_load_45 rfl (lv_at hl 1 rfl) ?_
    obtain ⟨v11, σ12, hm13, h⟩ := bi_e h
    refine xr_callv (res := (v11, σ12)) (va_runV (As := [.ref (za Z (156 + r0))]) (rest := []) ⟨hx, hb, hml, hown, hts⟩ (k_X3_fill l Z 1 r0 (by decide) hr0 σ9  hm13) (cwV 1 hts gX0_load_X3_fill rfl rfl rfl (by decide +kernel) ⟨Nat.le_of_ble_eq_true rfl, Nat.le_of_ble_eq_true rfl⟩) ⟨wx_blind, wr_recv hK hP (k := (208 + 1)) (by omega) ((tX_Load Z 1 (by decide)) _ _ _) rfl, fun U hU hW => ⟨rfl, wx_at hE hJ hP hK hS hU hW⟩⟩ rfl rfl hl.1 rfl (lv_room (Nat.le_of_ble_eq_true rfl)) dX0_load_46 ⟨Nat.le_of_ble_eq_true rfl, Nat.le_of_ble_eq_true rfl⟩) hS (fun H locs hP hS => ?_)
    have hP : ws_P (zD Z) vwCl 211 (za Z) (tX Z) σ12 H := hP
    exact xr_vret hx hb hr hlocks hE hJ hK hP hS h dX0_load_49
def m_X0_load  (r0 : Nat) (r1 : Nat) (σ : SG)  : Option (Unit × SG) := m_X0_load_0  r0 r1 σ 
set_option maxHeartbeats 4000000 in
set_option maxRecDepth 100000 in
theorem k_X0_load (l : Launch) {E : EF} (Z : ZT)  (r0 : Nat) (r1 : Nat) (hr0 : r0 < 9) (hr1 : r1 < 9) (σ : SG)  {res : Unit × SG} (h : m_X0_load  r0 r1 σ  = some res) : Met l yX0_load wsX0_load rm_X0_load (va_Pc [.ref (za Z 210), .ref (za Z (156 + r0)), .ref (za Z (156 + r1))] (wx E (zD Z) vwCl 211 (za Z) (tX Z) (tysX Z) σ)) (xQv E (zD Z) vwCl 211 (za Z) (tX Z) (tysX Z) res) 0 0 (ws_A 211 (za Z)) := by
  refine Met.ofW (cc := cX0_load) (maxL := 3) (ret := none) (by decide) rfl ?_
  intro p e s m args below meth c s₁ B hml hv
  obtain ⟨rfl, hE, hJ, hP, hK⟩ := hv
  have hl := lv_entry ([.ref (za Z 210), .ref (za Z (156 + r0)), .ref (za Z (156 + r1))]) (n := 3) (Nat.le_of_ble_eq_true rfl)
  rw [lg_entry_eq]
  generalize (lg_sl ([.ref (za Z 210), .ref (za Z (156 + r0)), .ref (za Z (156 + r1))]) ++ List.replicate (3 - (lg_sl ([.ref (za Z 210), .ref (za Z (156 + r0)), .ref (za Z (156 + r1))])).length) Slot.unset).toArray = ls at hl ⊢
  exact kb_X0_load_0 Z  r0 r1 hr0 hr1 ⟨B.exec, B.bytes, B.returns, B.notSynchronized, hml, findClass_of_methodNamed B.named, atoms_spec (ws := wsX0_load) B.pre, hE, hJ, hK⟩ σ  h s.heap [] hP va_S.rf ls hl
/-! TuneSearch$Carrier.unitsGoing()I -/
abbrev rm_X0_unitsGoing : Room := { frames := 0, cells := 0, slots := 0, locals := 0 }
theorem in_X0_unitsGoing_X0 : ∀ w ∈ wsX00, w ∈ wsX0_unitsGoing := by decide +kernel
theorem in_X0_unitsGoing_X3 : ∀ w ∈ wsX30, w ∈ wsX0_unitsGoing := by decide +kernel
def m_X0_unitsGoing_0    (σ : SG)  : Option (Int32 × SG) :=
  some (σ.1 (208 + 0) 4, σ)
set_option maxHeartbeats 4000000 in
set_option maxRecDepth 100000 in
theorem kb_X0_unitsGoing_0 {p : Program} {l : Launch} {e : Env} {s : State} {m : MethodId} {args : Array Value} {below : List Frame} {meth : Method} {c : Code} {E : EF} (Z : ZT)    (C : cy p s m args meth c cX0_unitsGoing (some .int) 1 RX0 wsX0_unitsGoing E (zD Z) vwCl 211 (za Z) (tysX Z)) {res : Int32 × SG}   : ∀ (σ : SG)  , m_X0_unitsGoing_0    σ  = some res → ∀ (H : Heap) (locs : List Loc), ws_P (zD Z) vwCl 211 (za Z) (tX Z) σ H → va_S (ws_A 211 (za Z)) s.heap H locs → ∀ (ls : Array Slot), lv_has ls 1 [(0, .ref (za Z 210))] → W p l e rm_X0_unitsGoing s m args below meth c H locs 0 0 (MQ below (xQi E (zD Z) vwCl 211 (za Z) (tX Z) (tysX Z) res) args s 0 0 (ws_A 211 (za Z))) (F0 m 0 ls []) := by
  have C0 := C
  obtain ⟨hx, hb, hr, hlocks, hml, hown, hts, hE, hJ, hK⟩ := C0
  intro σ   h H locs hP hS ls hl
  unfold m_X0_unitsGoing_0 at h
  refine lv_aload_n hx hb dX0_unitsGoing_0 rfl (lv_at hl 0 rfl) ?_
  refine wr_get (C := RX0) (T := TX0) (N := 11) hx hb hts (in_X0_unitsGoing_X0) hown hK hP (k := 210) (by decide) ((tX_Carrier Z) _ _ _) rfl 0 (by decide) (hts (.fieldLink RX0 14 "TuneSearch$Carrier" "givers" "LTuneSearch$Load;") (by decide +kernel)) (fun _ h9 => h9) rfl dX0_unitsGoing_1 ?_
  refine wr_get (C := RX3) (T := TX3) (N := 5) hx hb hts (in_X0_unitsGoing_X3) hown hK hP (k := (208 + 0)) (by omega) ((tX_Load Z 0 (by decide)) _ _ _) rfl 4 (by decide) (hts (.fieldLink RX0 58 "TuneSearch$Load" "units" "I") (by decide +kernel)) (fun _ h9 => h9) rfl dX0_unitsGoing_4 ?_
  exact xr_iret hx hb hr hlocks hE hJ hK hP hS h dX0_unitsGoing_7
def m_X0_unitsGoing   (σ : SG)  : Option (Int32 × SG) := m_X0_unitsGoing_0   σ 
set_option maxHeartbeats 4000000 in
set_option maxRecDepth 100000 in
theorem k_X0_unitsGoing (l : Launch) {E : EF} (Z : ZT)    (σ : SG)  {res : Int32 × SG} (h : m_X0_unitsGoing   σ  = some res) : Met l yX0_unitsGoing wsX0_unitsGoing rm_X0_unitsGoing (va_Pc [.ref (za Z 210)] (wx E (zD Z) vwCl 211 (za Z) (tX Z) (tysX Z) σ)) (xQi E (zD Z) vwCl 211 (za Z) (tX Z) (tysX Z) res) 0 0 (ws_A 211 (za Z)) := by
  refine Met.ofW (cc := cX0_unitsGoing) (maxL := 1) (ret := (some .int)) (by decide) rfl ?_
  intro p e s m args below meth c s₁ B hml hv
  obtain ⟨rfl, hE, hJ, hP, hK⟩ := hv
  have hl := lv_entry ([.ref (za Z 210)]) (n := 1) (Nat.le_of_ble_eq_true rfl)
  rw [lg_entry_eq]
  generalize (lg_sl ([.ref (za Z 210)]) ++ List.replicate (1 - (lg_sl ([.ref (za Z 210)])).length) Slot.unset).toArray = ls at hl ⊢
  exact kb_X0_unitsGoing_0 Z    ⟨B.exec, B.bytes, B.returns, B.notSynchronized, hml, findClass_of_methodNamed B.named, atoms_spec (ws := wsX0_unitsGoing) B.pre, hE, hJ, hK⟩ σ  h s.heap [] hP va_S.rf ls hl
/-! TuneSearch$Carrier.begin([I)V -/
abbrev rm_X0_begin : Room := { frames := 1, cells := 0, slots := 0, locals := 23 }
theorem in_X0_begin_X0 : ∀ w ∈ wsX00, w ∈ wsX0_begin := by decide +kernel
theorem in_X0_begin_X3 : ∀ w ∈ wsX30, w ∈ wsX0_begin := by decide +kernel
def m_X0_begin_15_s   (c2 : SG → Int32 → Option (Unit × SG)) (c15 : SG → Int32 → Int32 → Option (Unit × SG)) (σ : SG) (l2 : Int32) (l3 : Int32) : Option (Unit × SG) :=
  if (σ.1 (208 + 1) 3) ≤ l3 then (lS (l2 + 1) (fun v9 => c2 σ v9)) else (gB (inB l2 24) (gB (inB l3 24) (lS (if 0 ≤ ((σ.1 (30 + 0) l2.toNatClampNeg) - (σ.1 (30 + 1) l3.toNatClampNeg)) then ((σ.1 (30 + 0) l2.toNatClampNeg) - (σ.1 (30 + 1) l3.toNatClampNeg)) else 0 - ((σ.1 (30 + 0) l2.toNatClampNeg) - (σ.1 (30 + 1) l3.toNatClampNeg))) (fun v13 => gB (inB l2 24) (gB (inB l3 24) (lS (if 0 ≤ ((σ.1 (28 + 0) l2.toNatClampNeg) - (σ.1 (28 + 1) l3.toNatClampNeg)) then ((σ.1 (28 + 0) l2.toNatClampNeg) - (σ.1 (28 + 1) l3.toNatClampNeg)) else 0 - ((σ.1 (28 + 0) l2.toNatClampNeg) - (σ.1 (28 + 1) l3.toNatClampNeg))) (fun v17 => gB (inB l2 24) (gB (inB 5 8) (gB (inB 6 8) (gB (inB l3 24) (lS (sI σ (95 + l2.toNatClampNeg) l3.toNatClampNeg (((σ.1 18 (5 : Int32).toNatClampNeg) * v13) + ((σ.1 18 (6 : Int32).toNatClampNeg) * v17))) (fun σ24 => gB (inB l2 24) (gB (inB l3 24) (lS (sI σ24 (119 + l2.toNatClampNeg) l3.toNatClampNeg 0) (fun σ29 => lS (l3 + 1) (fun v31 => c15 σ29 l2 v31))))))))))))))))
def m_X0_begin_15   (c2 : SG → Int32 → Option (Unit × SG)) : Nat → SG → Int32 → Int32 → Option (Unit × SG)
  | 0, _, _, _ => none
  | n + 1, σ, l2, l3 => m_X0_begin_15_s   c2 (m_X0_begin_15   c2 n) σ l2 l3
set_option maxHeartbeats 4000000 in
set_option maxRecDepth 100000 in
theorem kb_X0_begin_15 {p : Program} {l : Launch} {e : Env} {s : State} {m : MethodId} {args : Array Value} {below : List Frame} {meth : Method} {c : Code} {E : EF} (Z : ZT)    (C : cy p s m args meth c cX0_begin none 6 RX0 wsX0_begin E (zD Z) vwCl 211 (za Z) (tysX Z)) {res : Unit × SG} {c2 : SG → Int32 → Option (Unit × SG)} (hc2 : ∀ (σ : SG) (l2 : Int32) , c2 σ l2 = some res → ∀ (H : Heap) (locs : List Loc), ws_P (zD Z) vwCl 211 (za Z) (tX Z) σ H → va_S (ws_A 211 (za Z)) s.heap H locs → ∀ (ls : Array Slot), lv_has ls 6 [(0, .ref (za Z 210)), (1, .ref (za Z 18)), (2, .int l2)] → W p l e rm_X0_begin s m args below meth c H locs 0 0 (MQ below (xQv E (zD Z) vwCl 211 (za Z) (tX Z) (tysX Z) res) args s 0 0 (ws_A 211 (za Z))) (F0 m 2 ls [])) : ∀ (n : Nat) (σ : SG) (l2 : Int32) (l3 : Int32) , m_X0_begin_15   c2 n σ l2 l3 = some res → ∀ (H : Heap) (locs : List Loc), ws_P (zD Z) vwCl 211 (za Z) (tX Z) σ H → va_S (ws_A 211 (za Z)) s.heap H locs → ∀ (ls : Array Slot), lv_has ls 6 [(0, .ref (za Z 210)), (1, .ref (za Z 18)), (2, .int l2), (3, .int l3)] → W p l e rm_X0_begin s m args below meth c H locs 0 0 (MQ below (xQv E (zD Z) vwCl 211 (za Z) (tX Z) (tysX Z) res) args s 0 0 (ws_A 211 (za Z))) (F0 m 15 ls []) := by
  have C0 := C
  obtain ⟨hx, hb, hr, hlocks, hml, hown, hts, hE, hJ, hK⟩ := C0
  intro n
  induction n with
  | zero =>
    intro σ l2 l3  h
    cases h
  | succ n ih =>
    intro σ l2 l3  h H locs hP hS ls hl
    have hc15 : ∀ (σ : SG) (l2 : Int32) (l3 : Int32) , m_X0_begin_15   c2 n σ l2 l3 = some res → ∀ (H : Heap) (locs : List Loc), ws_P (zD Z) vwCl 211 (za Z) (tX Z) σ H → va_S (ws_A 211 (za Z)) s.heap H locs → ∀ (ls : Array Slot), lv_has ls 6 [(0, .ref (za Z 210)), (1, .ref (za Z 18)), (2, .int l2), (3, .int l3)] → W p l e rm_X0_begin s m args below meth c H locs 0 0 (MQ below (xQv E (zD Z) vwCl 211 (za Z) (tX Z) (tysX Z) res) args s 0 0 (ws_A 211 (za Z))) (F0 m 15 ls []) := ih
    have h : m_X0_begin_15_s   c2 (m_X0_begin_15   c2 n) σ l2 l3 = some res := h
    unfold m_X0_begin_15_s at h
    refine lv_iload_n hx hb dX0_begin_15 rfl (lv_at hl 3 rfl) ?_
    refine lv_aload_n hx hb dX0_begin_16 rfl (lv_at hl 0 rfl) ?_
    refine wr_get (C := RX0) (T := TX0) (N := 11) hx hb hts (in_X0_begin_X0) hown hK hP (k := 210) (by decide) ((tX_Carrier Z) _ _ _) rfl 1 (by decide) (hts (.fieldLink RX0 20 "TuneSearch$Carrier" "takers" "LTuneSearch$Load;") (by decide +kernel)) (fun _ h9 => h9) rfl dX0_begin_17 ?_
    refine wr_get (C := RX3) (T := TX3) (N := 5) hx hb hts (in_X0_begin_X3) hown hK hP (k := (208 + 1)) (by omega) ((tX_Load Z 1 (by decide)) _ _ _) rfl 3 (by decide) (hts (.fieldLink RX0 66 "TuneSearch$Load" "count" "I") (by decide +kernel)) (fun _ h9 => h9) rfl dX0_begin_20 ?_
    refine lv_icmp_ge (tgt := 111) hx hb dX0_begin_23 (by decide) (fun q8 => ?_) (fun q8 => ?_)
    · have h := if_p h q8
      obtain ⟨v9, e10, h⟩ := lS_e h
      refine lv_iinc (v := v9) (lv' := [(2, .int v9), (0, .ref (za Z 210)), (1, .ref (za Z 18)), (3, .int l3)]) hx hb dX0_begin_111 hl (k := 2) rfl (by rw [e10]; rfl) (by decide) rfl (fun ls hl => ?_)
      refine lv_goto (tgt := 2) hx hb dX0_begin_114 (by decide) ?_
      exact hc2 σ v9 h H locs hP hS ls (lv_sub hl [1, 2, 0] rfl)
    · have h := if_n h q8
      refine lv_aload_n hx hb dX0_begin_26 rfl (lv_at hl 0 rfl) ?_
      refine wr_get (C := RX0) (T := TX0) (N := 11) hx hb hts (in_X0_begin_X0) hown hK hP (k := 210) (by decide) ((tX_Carrier Z) _ _ _) rfl 0 (by decide) (hts (.fieldLink RX0 14 "TuneSearch$Carrier" "givers" "LTuneSearch$Load;") (by decide +kernel)) (fun _ h9 => h9) rfl dX0_begin_27 ?_
      refine wr_get (C := RX3) (T := TX3) (N := 5) hx hb hts (in_X0_begin_X3) hown hK hP (k := (208 + 0)) (by omega) ((tX_Load Z 0 (by decide)) _ _ _) rfl 1 (by decide) (hts (.fieldLink RX0 73 "TuneSearch$Load" "begins" "[I") (by decide +kernel)) (fun _ h9 => h9) rfl dX0_begin_30 ?_
      refine lv_iload_n hx hb dX0_begin_33 rfl (lv_at hl 2 rfl) ?_
      obtain ⟨b11, h⟩ := gB_e h
      refine wr_iald hx hb hK hP (k := (30 + 0)) (by omega) 0 ((tX_ld_begins Z 0 (by decide)) _ _ _) rfl b11 dX0_begin_34 ?_
      refine lv_aload_n hx hb dX0_begin_35 rfl (lv_at hl 0 rfl) ?_
      refine wr_get (C := RX0) (T := TX0) (N := 11) hx hb hts (in_X0_begin_X0) hown hK hP (k := 210) (by decide) ((tX_Carrier Z) _ _ _) rfl 1 (by decide) (hts (.fieldLink RX0 20 "TuneSearch$Carrier" "takers" "LTuneSearch$Load;") (by decide +kernel)) (fun _ h9 => h9) rfl dX0_begin_36 ?_
      refine wr_get (C := RX3) (T := TX3) (N := 5) hx hb hts (in_X0_begin_X3) hown hK hP (k := (208 + 1)) (by omega) ((tX_Load Z 1 (by decide)) _ _ _) rfl 1 (by decide) (hts (.fieldLink RX0 73 "TuneSearch$Load" "begins" "[I") (by decide +kernel)) (fun _ h9 => h9) rfl dX0_begin_39 ?_
      refine lv_iload_n hx hb dX0_begin_42 rfl (lv_at hl 3 rfl) ?_
      obtain ⟨b12, h⟩ := gB_e h
      refine wr_iald hx hb hK hP (k := (30 + 1)) (by omega) 0 ((tX_ld_begins Z 1 (by decide)) _ _ _) rfl b12 dX0_begin_43 ?_
      refine lv_isub hx hb dX0_begin_44 ?_
      refine va_mabs hx hb (by rw [hml]; exact hl.1.symm) hown (hts (.methodLink RX0 76 Lib.Math.abs.name) (by decide +kernel)) (hts (.static Lib.Math.abs.name) (by decide +kernel)) (hts (.initialized "java/lang/Math") (by decide +kernel)) (hts (.code Lib.Math.abs.name Lib.Math.abs.code 1 (some .int)) (by decide +kernel)) (Nat.le_of_ble_eq_true rfl) (Nat.le_of_ble_eq_true rfl) (Nat.le_of_ble_eq_true rfl) (Nat.le_of_ble_eq_true rfl) dX0_begin_45 ?_
      refine lv_topi (fun v13 e14 => ?_)
      have h := lS_u h e14
      refine lv_istore (lv' := [(4, .int v13), (0, .ref (za Z 210)), (1, .ref (za Z 18)), (2, .int l2), (3, .int l3)]) hx hb dX0_begin_48 hl (by decide) rfl (fun ls hl => ?_)
      refine lv_aload_n hx hb dX0_begin_50 rfl (lv_at hl 1 rfl) ?_
      refine wr_get (C := RX0) (T := TX0) (N := 11) hx hb hts (in_X0_begin_X0) hown hK hP (k := 210) (by decide) ((tX_Carrier Z) _ _ _) rfl 0 (by decide) (hts (.fieldLink RX0 14 "TuneSearch$Carrier" "givers" "LTuneSearch$Load;") (by decide +kernel)) (fun _ h9 => h9) rfl dX0_begin_51 ?_
      refine wr_get (C := RX3) (T := TX3) (N := 5) hx hb hts (in_X0_begin_X3) hown hK hP (k := (208 + 0)) (by omega) ((tX_Load Z 0 (by decide)) _ _ _) rfl 0 (by decide) (hts (.fieldLink RX0 82 "TuneSearch$Load" "pitches" "[I") (by decide +kernel)) (fun _ h9 => h9) rfl dX0_begin_54 ?_
      refine lv_iload_n hx hb dX0_begin_57 rfl (lv_at hl 3 rfl) ?_
      obtain ⟨b15, h⟩ := gB_e h
      refine wr_iald hx hb hK hP (k := (28 + 0)) (by omega) 0 ((tX_ld_pitches Z 0 (by decide)) _ _ _) rfl b15 dX0_begin_58 ?_
      refine lv_aload_n hx hb dX0_begin_59 rfl (lv_at hl 1 rfl) ?_
      refine wr_get (C := RX0) (T := TX0) (N := 11) hx hb hts (in_X0_begin_X0) hown hK hP (k := 210) (by decide) ((tX_Carrier Z) _ _ _) rfl 1 (by decide) (hts (.fieldLink RX0 20 "TuneSearch$Carrier" "takers" "LTuneSearch$Load;") (by decide +kernel)) (fun _ h9 => h9) rfl dX0_begin_60 ?_
      refine wr_get (C := RX3) (T := TX3) (N := 5) hx hb hts (in_X0_begin_X3) hown hK hP (k := (208 + 1)) (by omega) ((tX_Load Z 1 (by decide)) _ _ _) rfl 0 (by decide) (hts (.fieldLink RX0 82 "TuneSearch$Load" "pitches" "[I") (by decide +kernel)) (fun _ h9 => h9) rfl dX0_begin_63 ?_
      refine lv_iload_n hx hb dX0_begin_66 rfl (lv_at hl 4 rfl) ?_
      obtain ⟨b16, h⟩ := gB_e h
      refine wr_iald hx hb hK hP (k := (28 + 1)) (by omega) 0 ((tX_ld_pitches Z 1 (by decide)) _ _ _) rfl b16 dX0_begin_67 ?_
      refine lv_isub hx hb dX0_begin_68 ?_
      refine va_mabs hx hb (by rw [hml]; exact hl.1.symm) hown (hts (.methodLink RX0 76 Lib.Math.abs.name) (by decide +kernel)) (hts (.static Lib.Math.abs.name) (by decide +kernel)) (hts (.initialized "java/lang/Math") (by decide +kernel)) (hts (.code Lib.Math.abs.name Lib.Math.abs.code 1 (some .int)) (by decide +kernel)) (Nat.le_of_ble_eq_true rfl) (Nat.le_of_ble_eq_true rfl) (Nat.le_of_ble_eq_true rfl) (Nat.le_of_ble_eq_true rfl) dX0_begin_69 ?_
      refine lv_topi (fun v17 e18 => ?_)
      have h := lS_u h e18
      refine lv_istore (lv' := [(5, .int v17), (4, .int v13), (0, .ref (za Z 210)), (1, .ref (za Z 18)), (2, .int l2), (3, .int l3)]) hx hb dX0_begin_72 hl (by decide) rfl (fun ls hl => ?_)
      refine lv_aload_n hx hb dX0_begin_74 rfl (lv_at hl 2 rfl) ?_
      refine wr_get (C := RX0) (T := TX0) (N := 11) hx hb hts (in_X0_begin_X0) hown hK hP (k := 210) (by decide) ((tX_Carrier Z) _ _ _) rfl 2 (by decide) (hts (.fieldLink RX0 25 "TuneSearch$Carrier" "unitCosts" "[[I") (by decide +kernel)) (fun _ h9 => h9) rfl dX0_begin_75 ?_
      refine lv_iload_n hx hb dX0_begin_78 rfl (lv_at hl 4 rfl) ?_
      obtain ⟨b19, h⟩ := gB_e h
      have hi20 := inB_lt b19
      refine wr_aald hx hb hK hP (k := 153) (by decide) 5 rfl ((tX_unitCostsO Z) _ _ _) rfl b19 (row_at hi20) dX0_begin_79 ?_
      refine lv_iload_n hx hb dX0_begin_80 rfl (lv_at hl 5 rfl) ?_
      refine lv_aload_n hx hb dX0_begin_81 rfl (lv_at hl 3 rfl) ?_
      refine lv_iconst (v := 5) hx hb dX0_begin_82 (by decide) ?_
      obtain ⟨b21, h⟩ := gB_e h
      refine wr_iald hx hb hK hP (k := 18) (by decide) 0 ((tX_I Z 18 (by decide)) _ _ _) rfl b21 dX0_begin_83 ?_
      refine lv_iload hx hb dX0_begin_84 (lv_at hl 1 rfl) ?_
      refine lv_imul hx hb dX0_begin_86 ?_
      refine lv_aload_n hx hb dX0_begin_87 rfl (lv_at hl 3 rfl) ?_
      refine lv_bipush (v := 6) hx hb dX0_begin_88 (by decide) ?_
      obtain ⟨b22, h⟩ := gB_e h
      refine wr_iald hx hb hK hP (k := 18) (by decide) 0 ((tX_I Z 18 (by decide)) _ _ _) rfl b22 dX0_begin_90 ?_
      refine lv_iload hx hb dX0_begin_91 (lv_at hl 0 rfl) ?_
      refine lv_imul hx hb dX0_begin_93 ?_
      refine lv_iadd hx hb dX0_begin_94 ?_
      obtain ⟨b23, h⟩ := gB_e h
      refine wr_iast hx hb hK hP hJ hS (k := (95 + l2.toNatClampNeg)) (by omega) 0 (tX_unitCosts Z l2.toNatClampNeg hi20) rfl b23 dX0_begin_95 (fun H locs hP hS => ?_)
      obtain ⟨σ24, e25, h⟩ := lS_e h
      rw [← e25] at hP
      refine lv_aload_n hx hb dX0_begin_96 rfl (lv_at hl 2 rfl) ?_
      refine wr_get (C := RX0) (T := TX0) (N := 11) hx hb hts (in_X0_begin_X0) hown hK hP (k := 210) (by decide) ((tX_Carrier Z) _ _ _) rfl 3 (by decide) (hts (.fieldLink RX0 28 "TuneSearch$Carrier" "sent" "[[I") (by decide +kernel)) (fun _ h9 => h9) rfl dX0_begin_97 ?_
      refine lv_iload_n hx hb dX0_begin_100 rfl (lv_at hl 4 rfl) ?_
      obtain ⟨b26, h⟩ := gB_e h
      have hi27 := inB_lt b26
      refine wr_aald hx hb hK hP (k := 154) (by decide) 5 rfl ((tX_sentO Z) _ _ _) rfl b26 (row_at hi27) dX0_begin_101 ?_
      refine lv_iload_n hx hb dX0_begin_102 rfl (lv_at hl 5 rfl) ?_
      refine lv_iconst (v := 0) hx hb dX0_begin_103 (by decide) ?_
      obtain ⟨b28, h⟩ := gB_e h
      refine wr_iast hx hb hK hP hJ hS (k := (119 + l2.toNatClampNeg)) (by omega) 0 (tX_sent Z l2.toNatClampNeg hi27) rfl b28 dX0_begin_104 (fun H locs hP hS => ?_)
      obtain ⟨σ29, e30, h⟩ := lS_e h
      rw [← e30] at hP
      obtain ⟨v31, e32, h⟩ := lS_e h
      refine lv_iinc (v := v31) (lv' := [(3, .int v31), (5, .int v17), (4, .int v13), (0, .ref (za Z 210)), (1, .ref (za Z 18)), (2, .int l2)]) hx hb dX0_begin_105 hl (k := 5) rfl (by rw [e32]; rfl) (by decide) rfl (fun ls hl => ?_)
      refine lv_goto (tgt := 15) hx hb dX0_begin_108 (by decide) ?_
      exact hc15 σ29 l2 v31 h H locs hP hS ls (lv_sub hl [3, 4, 5, 0] rfl)
def m_X0_begin_2_s    (c2 : SG → Int32 → Option (Unit × SG)) (σ : SG) (l2 : Int32) : Option (Unit × SG) :=
  if (σ.1 (208 + 0) 3) ≤ l2 then (bi (m_J7_fill_53178 34 σ 0) (fun v2 σ3 => bi (m_J7_fill_53178 35 σ3 0) (fun v5 σ6 => some ((), σ6)))) else (m_X0_begin_15   c2 FV σ l2 0)
def m_X0_begin_2    : Nat → SG → Int32 → Option (Unit × SG)
  | 0, _, _ => none
  | n + 1, σ, l2 => m_X0_begin_2_s    (m_X0_begin_2    n) σ l2
set_option maxHeartbeats 4000000 in
set_option maxRecDepth 100000 in
theorem kb_X0_begin_2 {p : Program} {l : Launch} {e : Env} {s : State} {m : MethodId} {args : Array Value} {below : List Frame} {meth : Method} {c : Code} {E : EF} (Z : ZT)    (C : cy p s m args meth c cX0_begin none 6 RX0 wsX0_begin E (zD Z) vwCl 211 (za Z) (tysX Z)) {res : Unit × SG}   : ∀ (n : Nat) (σ : SG) (l2 : Int32) , m_X0_begin_2    n σ l2 = some res → ∀ (H : Heap) (locs : List Loc), ws_P (zD Z) vwCl 211 (za Z) (tX Z) σ H → va_S (ws_A 211 (za Z)) s.heap H locs → ∀ (ls : Array Slot), lv_has ls 6 [(0, .ref (za Z 210)), (1, .ref (za Z 18)), (2, .int l2)] → W p l e rm_X0_begin s m args below meth c H locs 0 0 (MQ below (xQv E (zD Z) vwCl 211 (za Z) (tX Z) (tysX Z) res) args s 0 0 (ws_A 211 (za Z))) (F0 m 2 ls []) := by
  have C0 := C
  obtain ⟨hx, hb, hr, hlocks, hml, hown, hts, hE, hJ, hK⟩ := C0
  intro n
  induction n with
  | zero =>
    intro σ l2  h
    cases h
  | succ n ih =>
    intro σ l2  h H locs hP hS ls hl
    have hc2 : ∀ (σ : SG) (l2 : Int32) , m_X0_begin_2    n σ l2 = some res → ∀ (H : Heap) (locs : List Loc), ws_P (zD Z) vwCl 211 (za Z) (tX Z) σ H → va_S (ws_A 211 (za Z)) s.heap H locs → ∀ (ls : Array Slot), lv_has ls 6 [(0, .ref (za Z 210)), (1, .ref (za Z 18)), (2, .int l2)] → W p l e rm_X0_begin s m args below meth c H locs 0 0 (MQ below (xQv E (zD Z) vwCl 211 (za Z) (tX Z) (tysX Z) res) args s 0 0 (ws_A 211 (za Z))) (F0 m 2 ls []) := ih
    have h : m_X0_begin_2_s    (m_X0_begin_2    n) σ l2 = some res := h
    unfold m_X0_begin_2_s at h
    refine lv_iload_n hx hb dX0_begin_2 rfl (lv_at hl 2 rfl) ?_
    refine lv_aload_n hx hb dX0_begin_3 rfl (lv_at hl 0 rfl) ?_
    refine wr_get (C := RX0) (T := TX0) (N := 11) hx hb hts (in_X0_begin_X0) hown hK hP (k := 210) (by decide) ((tX_Carrier Z) _ _ _) rfl 0 (by decide) (hts (.fieldLink RX0 14 "TuneSearch$Carrier" "givers" "LTuneSearch$Load;") (by decide +kernel)) (fun _ h9 => h9) rfl dX0_begin_4 ?_
    refine wr_get (C := RX3) (T := TX3) (N := 5) hx hb hts (in_X0_begin_X3) hown hK hP (k := (208 + 0)) (by omega) ((tX_Load Z 0 (by decide)) _ _ _) rfl 3 (by decide) (hts (.fieldLink RX0 66 "TuneSearch$Load" "count" "I") (by decide +kernel)) (fun _ h9 => h9) rfl dX0_begin_7 ?_
    refine lv_icmp_ge (tgt := 117) hx hb dX0_begin_10 (by decide) (fun q1 => ?_) (fun q1 => ?_)
    · have h := if_p h q1
      refine lv_aload_n hx hb dX0_begin_117 rfl (lv_at hl 0 rfl) ?_
      refine wr_get (C := RX0) (T := TX0) (N := 11) hx hb hts (in_X0_begin_X0) hown hK hP (k := 210) (by decide) ((tX_Carrier Z) _ _ _) rfl 4 (by decide) (hts (.fieldLink RX0 31 "TuneSearch$Carrier" "giverRates" "[I") (by decide +kernel)) (fun _ h9 => h9) rfl dX0_begin_118 ?_
      refine lv_iconst (v := 0) hx hb dX0_begin_121 (by decide) ?_
      obtain ⟨v2, σ3, hm4, h⟩ := bi_e h
      refine xr_callv (res := (v2, σ3)) (va_runS (As := [.ref (za Z 34), .int 0]) (rest := []) ⟨hx, hb, hml, hown, hts⟩ (k_J7_fill_53178 l Z 34 (by decide) σ 0 hm4) (va_cwS 2 hts gX0_begin_J7_fill_53178 rfl rfl rfl (by decide +kernel) ⟨Nat.le_of_ble_eq_true rfl, Nat.le_of_ble_eq_true rfl⟩) ⟨wx_blind, fun U hU hW => ⟨rfl, wx_at hE hJ hP hK hS hU hW⟩⟩ rfl rfl hl.1 rfl (lv_room (Nat.le_of_ble_eq_true rfl)) dX0_begin_122 ⟨Nat.le_of_ble_eq_true rfl, Nat.le_of_ble_eq_true rfl⟩) hS (fun H locs hP hS => ?_)
      have hP : ws_P (zD Z) vwCl 211 (za Z) (tX Z) σ3 H := hP
      refine lv_aload_n hx hb dX0_begin_125 rfl (lv_at hl 0 rfl) ?_
      refine wr_get (C := RX0) (T := TX0) (N := 11) hx hb hts (in_X0_begin_X0) hown hK hP (k := 210) (by decide) ((tX_Carrier Z) _ _ _) rfl 5 (by decide) (hts (.fieldLink RX0 35 "TuneSearch$Carrier" "takerRates" "[I") (by decide +kernel)) (fun _ h9 => h9) rfl dX0_begin_126 ?_
      refine lv_iconst (v := 0) hx hb dX0_begin_129 (by decide) ?_
      obtain ⟨v5, σ6, hm7, h⟩ := bi_e h
      refine xr_callv (res := (v5, σ6)) (va_runS (As := [.ref (za Z 35), .int 0]) (rest := []) ⟨hx, hb, hml, hown, hts⟩ (k_J7_fill_53178 l Z 35 (by decide) σ3 0 hm7) (va_cwS 2 hts gX0_begin_J7_fill_53178 rfl rfl rfl (by decide +kernel) ⟨Nat.le_of_ble_eq_true rfl, Nat.le_of_ble_eq_true rfl⟩) ⟨wx_blind, fun U hU hW => ⟨rfl, wx_at hE hJ hP hK hS hU hW⟩⟩ rfl rfl hl.1 rfl (lv_room (Nat.le_of_ble_eq_true rfl)) dX0_begin_130 ⟨Nat.le_of_ble_eq_true rfl, Nat.le_of_ble_eq_true rfl⟩) hS (fun H locs hP hS => ?_)
      have hP : ws_P (zD Z) vwCl 211 (za Z) (tX Z) σ6 H := hP
      exact xr_vret hx hb hr hlocks hE hJ hK hP hS h dX0_begin_133
    · have h := if_n h q1
      refine lv_iconst (v := 0) hx hb dX0_begin_13 (by decide) ?_
      refine lv_istore_n (lv' := [(3, .int 0), (0, .ref (za Z 210)), (1, .ref (za Z 18)), (2, .int l2)]) hx hb dX0_begin_14 rfl hl (by decide) rfl (fun ls hl => ?_)
      exact kb_X0_begin_15 Z    C  hc2 FV σ l2 0 h H locs hP hS ls (lv_sub hl [1, 2, 3, 0] rfl)
def m_X0_begin_0    (σ : SG)  : Option (Unit × SG) :=
  m_X0_begin_2    FV σ 0
set_option maxHeartbeats 4000000 in
set_option maxRecDepth 100000 in
theorem kb_X0_begin_0 {p : Program} {l : Launch} {e : Env} {s : State} {m : MethodId} {args : Array Value} {below : List Frame} {meth : Method} {c : Code} {E : EF} (Z : ZT)    (C : cy p s m args meth c cX0_begin none 6 RX0 wsX0_begin E (zD Z) vwCl 211 (za Z) (tysX Z)) {res : Unit × SG}   : ∀ (σ : SG)  , m_X0_begin_0    σ  = some res → ∀ (H : Heap) (locs : List Loc), ws_P (zD Z) vwCl 211 (za Z) (tX Z) σ H → va_S (ws_A 211 (za Z)) s.heap H locs → ∀ (ls : Array Slot), lv_has ls 6 [(0, .ref (za Z 210)), (1, .ref (za Z 18))] → W p l e rm_X0_begin s m args below meth c H locs 0 0 (MQ below (xQv E (zD Z) vwCl 211 (za Z) (tX Z) (tysX Z) res) args s 0 0 (ws_A 211 (za Z))) (F0 m 0 ls []) := by
  have C0 := C
  obtain ⟨hx, hb, hr, hlocks, hml, hown, hts, hE, hJ, hK⟩ := C0
  intro σ   h H locs hP hS ls hl
  unfold m_X0_begin_0 at h
  refine lv_iconst (v := 0) hx hb dX0_begin_0 (by decide) ?_
  refine lv_istore_n (lv' := [(2, .int 0), (0, .ref (za Z 210)), (1, .ref (za Z 18))]) hx hb dX0_begin_1 rfl hl (by decide) rfl (fun ls hl => ?_)
  exact kb_X0_begin_2 Z    C   FV σ 0 h H locs hP hS ls (lv_sub hl [1, 2, 0] rfl)
def m_X0_begin   (σ : SG)  : Option (Unit × SG) := m_X0_begin_0   σ 
set_option maxHeartbeats 4000000 in
set_option maxRecDepth 100000 in
theorem k_X0_begin (l : Launch) {E : EF} (Z : ZT)    (σ : SG)  {res : Unit × SG} (h : m_X0_begin   σ  = some res) : Met l yX0_begin wsX0_begin rm_X0_begin (va_Pc [.ref (za Z 210), .ref (za Z 18)] (wx E (zD Z) vwCl 211 (za Z) (tX Z) (tysX Z) σ)) (xQv E (zD Z) vwCl 211 (za Z) (tX Z) (tysX Z) res) 0 0 (ws_A 211 (za Z)) := by
  refine Met.ofW (cc := cX0_begin) (maxL := 6) (ret := none) (by decide) rfl ?_
  intro p e s m args below meth c s₁ B hml hv
  obtain ⟨rfl, hE, hJ, hP, hK⟩ := hv
  have hl := lv_entry ([.ref (za Z 210), .ref (za Z 18)]) (n := 6) (Nat.le_of_ble_eq_true rfl)
  rw [lg_entry_eq]
  generalize (lg_sl ([.ref (za Z 210), .ref (za Z 18)]) ++ List.replicate (6 - (lg_sl ([.ref (za Z 210), .ref (za Z 18)])).length) Slot.unset).toArray = ls at hl ⊢
  exact kb_X0_begin_0 Z    ⟨B.exec, B.bytes, B.returns, B.notSynchronized, hml, findClass_of_methodNamed B.named, atoms_spec (ws := wsX0_begin) B.pre, hE, hJ, hK⟩ σ  h s.heap [] hP va_S.rf ls hl
/-! TuneSearch$Carrier.reachGiver(III)V -/
abbrev rm_X0_reachGiver : Room := { frames := 0, cells := 0, slots := 0, locals := 0 }
theorem in_X0_reachGiver_X0 : ∀ w ∈ wsX00, w ∈ wsX0_reachGiver := by decide +kernel
theorem in_X0_reachGiver_X3 : ∀ w ∈ wsX30, w ∈ wsX0_reachGiver := by decide +kernel
def m_X0_reachGiver_96   (c17 : SG → Int32 → Int32 → Int32 → Option (Unit × SG)) (σ : SG) (l1 : Int32) (l2 : Int32) (l4 : Int32) : Option (Unit × SG) :=
  lS (l4 + 1) (fun v25 => c17 σ l1 l2 v25)
set_option maxHeartbeats 4000000 in
set_option maxRecDepth 100000 in
theorem kb_X0_reachGiver_96 {p : Program} {l : Launch} {e : Env} {s : State} {m : MethodId} {args : Array Value} {below : List Frame} {meth : Method} {c : Code} {E : EF} (Z : ZT)    (C : cy p s m args meth c cX0_reachGiver none 6 RX0 wsX0_reachGiver E (zD Z) vwCl 211 (za Z) (tysX Z)) {res : Unit × SG} {c17 : SG → Int32 → Int32 → Int32 → Option (Unit × SG)} (hc17 : ∀ (σ : SG) (l1 : Int32) (l2 : Int32) (l4 : Int32) , c17 σ l1 l2 l4 = some res → ∀ (H : Heap) (locs : List Loc), ws_P (zD Z) vwCl 211 (za Z) (tX Z) σ H → va_S (ws_A 211 (za Z)) s.heap H locs → ∀ (ls : Array Slot), lv_has ls 6 [(0, .ref (za Z 210)), (1, .int l1), (2, .int l2), (4, .int l4)] → W p l e rm_X0_reachGiver s m args below meth c H locs 0 0 (MQ below (xQv E (zD Z) vwCl 211 (za Z) (tX Z) (tysX Z) res) args s 0 0 (ws_A 211 (za Z))) (F0 m 17 ls [])) : ∀ (σ : SG) (l1 : Int32) (l2 : Int32) (l4 : Int32) , m_X0_reachGiver_96   c17 σ l1 l2 l4 = some res → ∀ (H : Heap) (locs : List Loc), ws_P (zD Z) vwCl 211 (za Z) (tX Z) σ H → va_S (ws_A 211 (za Z)) s.heap H locs → ∀ (ls : Array Slot), lv_has ls 6 [(0, .ref (za Z 210)), (1, .int l1), (2, .int l2), (4, .int l4)] → W p l e rm_X0_reachGiver s m args below meth c H locs 0 0 (MQ below (xQv E (zD Z) vwCl 211 (za Z) (tX Z) (tysX Z) res) args s 0 0 (ws_A 211 (za Z))) (F0 m 96 ls []) := by
  have C0 := C
  obtain ⟨hx, hb, hr, hlocks, hml, hown, hts, hE, hJ, hK⟩ := C0
  intro σ l1 l2 l4  h H locs hP hS ls hl
  unfold m_X0_reachGiver_96 at h
  obtain ⟨v25, e26, h⟩ := lS_e h
  refine lv_iinc (v := v25) (lv' := [(4, .int v25), (0, .ref (za Z 210)), (1, .int l1), (2, .int l2)]) hx hb dX0_reachGiver_96 hl (k := 3) rfl (by rw [e26]; rfl) (by decide) rfl (fun ls hl => ?_)
  refine lv_goto (tgt := 17) hx hb dX0_reachGiver_99 (by decide) ?_
  exact hc17 σ l1 l2 v25 h H locs hP hS ls (lv_sub hl [1, 2, 3, 0] rfl)
def m_X0_reachGiver_17_s    (c17 : SG → Int32 → Int32 → Int32 → Option (Unit × SG)) (σ : SG) (l1 : Int32) (l2 : Int32) (l4 : Int32) : Option (Unit × SG) :=
  if (σ.1 (208 + 1) 3) ≤ l4 then (some ((), σ)) else (gB (inB l1 24) (gB (inB l4 24) (gB (inB l1 24) (gB (inB l4 24) (lS (((l2 + (σ.1 (95 + l1.toNatClampNeg) l4.toNatClampNeg)) - (σ.1 34 l1.toNatClampNeg)) - (σ.1 35 l4.toNatClampNeg)) (fun v13 => gB (inB l4 24) (if ¬ (σ.1 143 l4.toNatClampNeg) = 0 then (m_X0_reachGiver_96   c17 σ l1 l2 l4) else (gB (inB l4 24) (if (σ.1 37 l4.toNatClampNeg) ≤ v13 then (m_X0_reachGiver_96   c17 σ l1 l2 l4) else (gB (inB l4 24) (lS (sI σ 37 l4.toNatClampNeg v13) (fun σ20 => gB (inB l4 24) (lS (sI σ20 39 l4.toNatClampNeg l1) (fun σ23 => m_X0_reachGiver_96   c17 σ23 l1 l2 l4))))))))))))))
def m_X0_reachGiver_17    : Nat → SG → Int32 → Int32 → Int32 → Option (Unit × SG)
  | 0, _, _, _, _ => none
  | n + 1, σ, l1, l2, l4 => m_X0_reachGiver_17_s    (m_X0_reachGiver_17    n) σ l1 l2 l4
set_option maxHeartbeats 4000000 in
set_option maxRecDepth 100000 in
theorem kb_X0_reachGiver_17 {p : Program} {l : Launch} {e : Env} {s : State} {m : MethodId} {args : Array Value} {below : List Frame} {meth : Method} {c : Code} {E : EF} (Z : ZT)    (C : cy p s m args meth c cX0_reachGiver none 6 RX0 wsX0_reachGiver E (zD Z) vwCl 211 (za Z) (tysX Z)) {res : Unit × SG}   : ∀ (n : Nat) (σ : SG) (l1 : Int32) (l2 : Int32) (l4 : Int32) , m_X0_reachGiver_17    n σ l1 l2 l4 = some res → ∀ (H : Heap) (locs : List Loc), ws_P (zD Z) vwCl 211 (za Z) (tX Z) σ H → va_S (ws_A 211 (za Z)) s.heap H locs → ∀ (ls : Array Slot), lv_has ls 6 [(0, .ref (za Z 210)), (1, .int l1), (2, .int l2), (4, .int l4)] → W p l e rm_X0_reachGiver s m args below meth c H locs 0 0 (MQ below (xQv E (zD Z) vwCl 211 (za Z) (tX Z) (tysX Z) res) args s 0 0 (ws_A 211 (za Z))) (F0 m 17 ls []) := by
  have C0 := C
  obtain ⟨hx, hb, hr, hlocks, hml, hown, hts, hE, hJ, hK⟩ := C0
  intro n
  induction n with
  | zero =>
    intro σ l1 l2 l4  h
    cases h
  | succ n ih =>
    intro σ l1 l2 l4  h H locs hP hS ls hl
    have hc17 : ∀ (σ : SG) (l1 : Int32) (l2 : Int32) (l4 : Int32) , m_X0_reachGiver_17    n σ l1 l2 l4 = some res → ∀ (H : Heap) (locs : List Loc), ws_P (zD Z) vwCl 211 (za Z) (tX Z) σ H → va_S (ws_A 211 (za Z)) s.heap H locs → ∀ (ls : Array Slot), lv_has ls 6 [(0, .ref (za Z 210)), (1, .int l1), (2, .int l2), (4, .int l4)] → W p l e rm_X0_reachGiver s m args below meth c H locs 0 0 (MQ below (xQv E (zD Z) vwCl 211 (za Z) (tX Z) (tysX Z) res) args s 0 0 (ws_A 211 (za Z))) (F0 m 17 ls []) := ih
    have h : m_X0_reachGiver_17_s    (m_X0_reachGiver_17    n) σ l1 l2 l4 = some res := h
    unfold m_X0_reachGiver_17_s at h
    refine lv_iload hx hb dX0_reachGiver_17 (lv_at hl 3 rfl) ?_
    refine lv_aload_n hx hb dX0_reachGiver_19 rfl (lv_at hl 0 rfl) ?_
    refine wr_get (C := RX0) (T := TX0) (N := 11) hx hb hts (in_X0_reachGiver_X0) hown hK hP (k := 210) (by decide) ((tX_Carrier Z) _ _ _) rfl 1 (by decide) (hts (.fieldLink RX0 20 "TuneSearch$Carrier" "takers" "LTuneSearch$Load;") (by decide +kernel)) (fun _ h9 => h9) rfl dX0_reachGiver_20 ?_
    refine wr_get (C := RX3) (T := TX3) (N := 5) hx hb hts (in_X0_reachGiver_X3) hown hK hP (k := (208 + 1)) (by omega) ((tX_Load Z 1 (by decide)) _ _ _) rfl 3 (by decide) (hts (.fieldLink RX0 66 "TuneSearch$Load" "count" "I") (by decide +kernel)) (fun _ h9 => h9) rfl dX0_reachGiver_23 ?_
    refine lv_icmp_ge (tgt := 102) hx hb dX0_reachGiver_26 (by decide) (fun q7 => ?_) (fun q7 => ?_)
    · have h := if_p h q7
      exact xr_vret hx hb hr hlocks hE hJ hK hP hS h dX0_reachGiver_102
    · have h := if_n h q7
      refine lv_iload_n hx hb dX0_reachGiver_29 rfl (lv_at hl 2 rfl) ?_
      refine lv_aload_n hx hb dX0_reachGiver_30 rfl (lv_at hl 0 rfl) ?_
      refine wr_get (C := RX0) (T := TX0) (N := 11) hx hb hts (in_X0_reachGiver_X0) hown hK hP (k := 210) (by decide) ((tX_Carrier Z) _ _ _) rfl 2 (by decide) (hts (.fieldLink RX0 25 "TuneSearch$Carrier" "unitCosts" "[[I") (by decide +kernel)) (fun _ h9 => h9) rfl dX0_reachGiver_31 ?_
      refine lv_iload_n hx hb dX0_reachGiver_34 rfl (lv_at hl 1 rfl) ?_
      obtain ⟨b8, h⟩ := gB_e h
      have hi9 := inB_lt b8
      refine wr_aald hx hb hK hP (k := 153) (by decide) 5 rfl ((tX_unitCostsO Z) _ _ _) rfl b8 (row_at hi9) dX0_reachGiver_35 ?_
      refine lv_iload hx hb dX0_reachGiver_36 (lv_at hl 3 rfl) ?_
      obtain ⟨b10, h⟩ := gB_e h
      refine wr_iald hx hb hK hP (k := (95 + l1.toNatClampNeg)) (by omega) 0 ((tX_unitCosts Z l1.toNatClampNeg hi9) _ _ _) rfl b10 dX0_reachGiver_38 ?_
      refine lv_iadd hx hb dX0_reachGiver_39 ?_
      refine lv_aload_n hx hb dX0_reachGiver_40 rfl (lv_at hl 0 rfl) ?_
      refine wr_get (C := RX0) (T := TX0) (N := 11) hx hb hts (in_X0_reachGiver_X0) hown hK hP (k := 210) (by decide) ((tX_Carrier Z) _ _ _) rfl 4 (by decide) (hts (.fieldLink RX0 31 "TuneSearch$Carrier" "giverRates" "[I") (by decide +kernel)) (fun _ h9 => h9) rfl dX0_reachGiver_41 ?_
      refine lv_iload_n hx hb dX0_reachGiver_44 rfl (lv_at hl 1 rfl) ?_
      obtain ⟨b11, h⟩ := gB_e h
      refine wr_iald hx hb hK hP (k := 34) (by decide) 0 ((tX_I Z 34 (by decide)) _ _ _) rfl b11 dX0_reachGiver_45 ?_
      refine lv_isub hx hb dX0_reachGiver_46 ?_
      refine lv_aload_n hx hb dX0_reachGiver_47 rfl (lv_at hl 0 rfl) ?_
      refine wr_get (C := RX0) (T := TX0) (N := 11) hx hb hts (in_X0_reachGiver_X0) hown hK hP (k := 210) (by decide) ((tX_Carrier Z) _ _ _) rfl 5 (by decide) (hts (.fieldLink RX0 35 "TuneSearch$Carrier" "takerRates" "[I") (by decide +kernel)) (fun _ h9 => h9) rfl dX0_reachGiver_48 ?_
      refine lv_iload hx hb dX0_reachGiver_51 (lv_at hl 3 rfl) ?_
      obtain ⟨b12, h⟩ := gB_e h
      refine wr_iald hx hb hK hP (k := 35) (by decide) 0 ((tX_I Z 35 (by decide)) _ _ _) rfl b12 dX0_reachGiver_53 ?_
      refine lv_isub hx hb dX0_reachGiver_54 ?_
      refine lv_topi (fun v13 e14 => ?_)
      have h := lS_u h e14
      refine lv_istore (lv' := [(5, .int v13), (0, .ref (za Z 210)), (1, .int l1), (2, .int l2), (4, .int l4)]) hx hb dX0_reachGiver_55 hl (by decide) rfl (fun ls hl => ?_)
      refine lv_aload_n hx hb dX0_reachGiver_57 rfl (lv_at hl 1 rfl) ?_
      refine wr_get (C := RX0) (T := TX0) (N := 11) hx hb hts (in_X0_reachGiver_X0) hown hK hP (k := 210) (by decide) ((tX_Carrier Z) _ _ _) rfl 10 (by decide) (hts (.fieldLink RX0 50 "TuneSearch$Carrier" "takerDone" "[Z") (by decide +kernel)) (fun _ h9 => h9) rfl dX0_reachGiver_58 ?_
      refine lv_iload hx hb dX0_reachGiver_61 (lv_at hl 4 rfl) ?_
      obtain ⟨b15, h⟩ := gB_e h
      refine wr_zald hx hb hK hP (k := 143) (by decide) 2 ((tX_Z Z) _ _ _) rfl b15 dX0_reachGiver_63 ?_
      refine lv_if_ne (tgt := 96) hx hb dX0_reachGiver_64 (by decide) (fun q16 => ?_) (fun q16 => ?_)
      · have h := if_p h q16
        exact kb_X0_reachGiver_96 Z    C  hc17 σ l1 l2 l4 h H locs hP hS ls (lv_sub hl [1, 2, 3, 4] rfl)
      · have h := if_n h (fun z => z q16)
        refine lv_iload hx hb dX0_reachGiver_67 (lv_at hl 0 rfl) ?_
        refine lv_aload_n hx hb dX0_reachGiver_69 rfl (lv_at hl 1 rfl) ?_
        refine wr_get (C := RX0) (T := TX0) (N := 11) hx hb hts (in_X0_reachGiver_X0) hown hK hP (k := 210) (by decide) ((tX_Carrier Z) _ _ _) rfl 7 (by decide) (hts (.fieldLink RX0 41 "TuneSearch$Carrier" "takerReach" "[I") (by decide +kernel)) (fun _ h9 => h9) rfl dX0_reachGiver_70 ?_
        refine lv_iload hx hb dX0_reachGiver_73 (lv_at hl 4 rfl) ?_
        obtain ⟨b17, h⟩ := gB_e h
        refine wr_iald hx hb hK hP (k := 37) (by decide) 0 ((tX_I Z 37 (by decide)) _ _ _) rfl b17 dX0_reachGiver_75 ?_
        refine lv_icmp_ge (tgt := 96) hx hb dX0_reachGiver_76 (by decide) (fun q18 => ?_) (fun q18 => ?_)
        · have h := if_p h q18
          exact kb_X0_reachGiver_96 Z    C  hc17 σ l1 l2 l4 h H locs hP hS ls (lv_sub hl [1, 2, 3, 4] rfl)
        · have h := if_n h q18
          refine lv_aload_n hx hb dX0_reachGiver_79 rfl (lv_at hl 1 rfl) ?_
          refine wr_get (C := RX0) (T := TX0) (N := 11) hx hb hts (in_X0_reachGiver_X0) hown hK hP (k := 210) (by decide) ((tX_Carrier Z) _ _ _) rfl 7 (by decide) (hts (.fieldLink RX0 41 "TuneSearch$Carrier" "takerReach" "[I") (by decide +kernel)) (fun _ h9 => h9) rfl dX0_reachGiver_80 ?_
          refine lv_iload hx hb dX0_reachGiver_83 (lv_at hl 4 rfl) ?_
          refine lv_iload hx hb dX0_reachGiver_85 (lv_at hl 0 rfl) ?_
          obtain ⟨b19, h⟩ := gB_e h
          refine wr_iast hx hb hK hP hJ hS (k := 37) (by decide) 0 (tX_I Z 37 (by decide)) rfl b19 dX0_reachGiver_87 (fun H locs hP hS => ?_)
          obtain ⟨σ20, e21, h⟩ := lS_e h
          rw [← e21] at hP
          refine lv_aload_n hx hb dX0_reachGiver_88 rfl (lv_at hl 1 rfl) ?_
          refine wr_get (C := RX0) (T := TX0) (N := 11) hx hb hts (in_X0_reachGiver_X0) hown hK hP (k := 210) (by decide) ((tX_Carrier Z) _ _ _) rfl 9 (by decide) (hts (.fieldLink RX0 47 "TuneSearch$Carrier" "takerVia" "[I") (by decide +kernel)) (fun _ h9 => h9) rfl dX0_reachGiver_89 ?_
          refine lv_iload hx hb dX0_reachGiver_92 (lv_at hl 4 rfl) ?_
          refine lv_iload_n hx hb dX0_reachGiver_94 rfl (lv_at hl 2 rfl) ?_
          obtain ⟨b22, h⟩ := gB_e h
          refine wr_iast hx hb hK hP hJ hS (k := 39) (by decide) 0 (tX_I Z 39 (by decide)) rfl b22 dX0_reachGiver_95 (fun H locs hP hS => ?_)
          obtain ⟨σ23, e24, h⟩ := lS_e h
          rw [← e24] at hP
          exact kb_X0_reachGiver_96 Z    C  hc17 σ23 l1 l2 l4 h H locs hP hS ls (lv_sub hl [1, 2, 3, 4] rfl)
def m_X0_reachGiver_0    (σ : SG) (p0 : Int32) (p1 : Int32) (p2 : Int32) : Option (Unit × SG) :=
  gB (inB p0 24) (lS (sI σ 36 p0.toNatClampNeg p1) (fun σ2 => gB (inB p0 24) (lS (sI σ2 38 p0.toNatClampNeg p2) (fun σ5 => m_X0_reachGiver_17    FV σ5 p0 p1 0))))
set_option maxHeartbeats 4000000 in
set_option maxRecDepth 100000 in
theorem kb_X0_reachGiver_0 {p : Program} {l : Launch} {e : Env} {s : State} {m : MethodId} {args : Array Value} {below : List Frame} {meth : Method} {c : Code} {E : EF} (Z : ZT)    (C : cy p s m args meth c cX0_reachGiver none 6 RX0 wsX0_reachGiver E (zD Z) vwCl 211 (za Z) (tysX Z)) {res : Unit × SG}   : ∀ (σ : SG) (p0 : Int32) (p1 : Int32) (p2 : Int32) , m_X0_reachGiver_0    σ p0 p1 p2 = some res → ∀ (H : Heap) (locs : List Loc), ws_P (zD Z) vwCl 211 (za Z) (tX Z) σ H → va_S (ws_A 211 (za Z)) s.heap H locs → ∀ (ls : Array Slot), lv_has ls 6 [(0, .ref (za Z 210)), (1, .int p0), (2, .int p1), (3, .int p2)] → W p l e rm_X0_reachGiver s m args below meth c H locs 0 0 (MQ below (xQv E (zD Z) vwCl 211 (za Z) (tX Z) (tysX Z) res) args s 0 0 (ws_A 211 (za Z))) (F0 m 0 ls []) := by
  have C0 := C
  obtain ⟨hx, hb, hr, hlocks, hml, hown, hts, hE, hJ, hK⟩ := C0
  intro σ p0 p1 p2  h H locs hP hS ls hl
  unfold m_X0_reachGiver_0 at h
  refine lv_aload_n hx hb dX0_reachGiver_0 rfl (lv_at hl 0 rfl) ?_
  refine wr_get (C := RX0) (T := TX0) (N := 11) hx hb hts (in_X0_reachGiver_X0) hown hK hP (k := 210) (by decide) ((tX_Carrier Z) _ _ _) rfl 6 (by decide) (hts (.fieldLink RX0 38 "TuneSearch$Carrier" "giverReach" "[I") (by decide +kernel)) (fun _ h9 => h9) rfl dX0_reachGiver_1 ?_
  refine lv_iload_n hx hb dX0_reachGiver_4 rfl (lv_at hl 1 rfl) ?_
  refine lv_iload_n hx hb dX0_reachGiver_5 rfl (lv_at hl 2 rfl) ?_
  obtain ⟨b1, h⟩ := gB_e h
  refine wr_iast hx hb hK hP hJ hS (k := 36) (by decide) 0 (tX_I Z 36 (by decide)) rfl b1 dX0_reachGiver_6 (fun H locs hP hS => ?_)
  obtain ⟨σ2, e3, h⟩ := lS_e h
  rw [← e3] at hP
  refine lv_aload_n hx hb dX0_reachGiver_7 rfl (lv_at hl 0 rfl) ?_
  refine wr_get (C := RX0) (T := TX0) (N := 11) hx hb hts (in_X0_reachGiver_X0) hown hK hP (k := 210) (by decide) ((tX_Carrier Z) _ _ _) rfl 8 (by decide) (hts (.fieldLink RX0 44 "TuneSearch$Carrier" "giverVia" "[I") (by decide +kernel)) (fun _ h9 => h9) rfl dX0_reachGiver_8 ?_
  refine lv_iload_n hx hb dX0_reachGiver_11 rfl (lv_at hl 1 rfl) ?_
  refine lv_iload_n hx hb dX0_reachGiver_12 rfl (lv_at hl 3 rfl) ?_
  obtain ⟨b4, h⟩ := gB_e h
  refine wr_iast hx hb hK hP hJ hS (k := 38) (by decide) 0 (tX_I Z 38 (by decide)) rfl b4 dX0_reachGiver_13 (fun H locs hP hS => ?_)
  obtain ⟨σ5, e6, h⟩ := lS_e h
  rw [← e6] at hP
  refine lv_iconst (v := 0) hx hb dX0_reachGiver_14 (by decide) ?_
  refine lv_istore (lv' := [(4, .int 0), (0, .ref (za Z 210)), (1, .int p0), (2, .int p1), (3, .int p2)]) hx hb dX0_reachGiver_15 hl (by decide) rfl (fun ls hl => ?_)
  exact kb_X0_reachGiver_17 Z    C   FV σ5 p0 p1 0 h H locs hP hS ls (lv_sub hl [1, 2, 3, 0] rfl)
def m_X0_reachGiver   (σ : SG) (p0 : Int32) (p1 : Int32) (p2 : Int32) : Option (Unit × SG) := m_X0_reachGiver_0   σ p0 p1 p2
set_option maxHeartbeats 4000000 in
set_option maxRecDepth 100000 in
theorem k_X0_reachGiver (l : Launch) {E : EF} (Z : ZT)    (σ : SG) (p0 : Int32) (p1 : Int32) (p2 : Int32) {res : Unit × SG} (h : m_X0_reachGiver   σ p0 p1 p2 = some res) : Met l yX0_reachGiver wsX0_reachGiver rm_X0_reachGiver (va_Pc [.ref (za Z 210), .int p0, .int p1, .int p2] (wx E (zD Z) vwCl 211 (za Z) (tX Z) (tysX Z) σ)) (xQv E (zD Z) vwCl 211 (za Z) (tX Z) (tysX Z) res) 0 0 (ws_A 211 (za Z)) := by
  refine Met.ofW (cc := cX0_reachGiver) (maxL := 6) (ret := none) (by decide) rfl ?_
  intro p e s m args below meth c s₁ B hml hv
  obtain ⟨rfl, hE, hJ, hP, hK⟩ := hv
  have hl := lv_entry ([.ref (za Z 210), .int p0, .int p1, .int p2]) (n := 6) (Nat.le_of_ble_eq_true rfl)
  rw [lg_entry_eq]
  generalize (lg_sl ([.ref (za Z 210), .int p0, .int p1, .int p2]) ++ List.replicate (6 - (lg_sl ([.ref (za Z 210), .int p0, .int p1, .int p2])).length) Slot.unset).toArray = ls at hl ⊢
  exact kb_X0_reachGiver_0 Z    ⟨B.exec, B.bytes, B.returns, B.notSynchronized, hml, findClass_of_methodNamed B.named, atoms_spec (ws := wsX0_reachGiver) B.pre, hE, hJ, hK⟩ σ p0 p1 p2 h s.heap [] hP va_S.rf ls hl
/-! TuneSearch$Carrier.nearestTaker()I -/
abbrev rm_X0_nearestTaker : Room := { frames := 0, cells := 0, slots := 0, locals := 0 }
theorem in_X0_nearestTaker_X0 : ∀ w ∈ wsX00, w ∈ wsX0_nearestTaker := by decide +kernel
theorem in_X0_nearestTaker_X3 : ∀ w ∈ wsX30, w ∈ wsX0_nearestTaker := by decide +kernel
def m_X0_nearestTaker_46   (c7 : SG → Int32 → Int32 → Int32 → Option (Int32 × SG)) (σ : SG) (l1 : Int32) (l2 : Int32) (l3 : Int32) : Option (Int32 × SG) :=
  lS (l3 + 1) (fun v9 => c7 σ l1 l2 v9)
set_option maxHeartbeats 4000000 in
set_option maxRecDepth 100000 in
theorem kb_X0_nearestTaker_46 {p : Program} {l : Launch} {e : Env} {s : State} {m : MethodId} {args : Array Value} {below : List Frame} {meth : Method} {c : Code} {E : EF} (Z : ZT)    (C : cy p s m args meth c cX0_nearestTaker (some .int) 4 RX0 wsX0_nearestTaker E (zD Z) vwCl 211 (za Z) (tysX Z)) {res : Int32 × SG} {c7 : SG → Int32 → Int32 → Int32 → Option (Int32 × SG)} (hc7 : ∀ (σ : SG) (l1 : Int32) (l2 : Int32) (l3 : Int32) , c7 σ l1 l2 l3 = some res → ∀ (H : Heap) (locs : List Loc), ws_P (zD Z) vwCl 211 (za Z) (tX Z) σ H → va_S (ws_A 211 (za Z)) s.heap H locs → ∀ (ls : Array Slot), lv_has ls 4 [(0, .ref (za Z 210)), (1, .int l1), (2, .int l2), (3, .int l3)] → W p l e rm_X0_nearestTaker s m args below meth c H locs 0 0 (MQ below (xQi E (zD Z) vwCl 211 (za Z) (tX Z) (tysX Z) res) args s 0 0 (ws_A 211 (za Z))) (F0 m 7 ls [])) : ∀ (σ : SG) (l1 : Int32) (l2 : Int32) (l3 : Int32) , m_X0_nearestTaker_46   c7 σ l1 l2 l3 = some res → ∀ (H : Heap) (locs : List Loc), ws_P (zD Z) vwCl 211 (za Z) (tX Z) σ H → va_S (ws_A 211 (za Z)) s.heap H locs → ∀ (ls : Array Slot), lv_has ls 4 [(0, .ref (za Z 210)), (1, .int l1), (2, .int l2), (3, .int l3)] → W p l e rm_X0_nearestTaker s m args below meth c H locs 0 0 (MQ below (xQi E (zD Z) vwCl 211 (za Z) (tX Z) (tysX Z) res) args s 0 0 (ws_A 211 (za Z))) (F0 m 46 ls []) := by
  have C0 := C
  obtain ⟨hx, hb, hr, hlocks, hml, hown, hts, hE, hJ, hK⟩ := C0
  intro σ l1 l2 l3  h H locs hP hS ls hl
  unfold m_X0_nearestTaker_46 at h
  obtain ⟨v9, e10, h⟩ := lS_e h
  refine lv_iinc (v := v9) (lv' := [(3, .int v9), (0, .ref (za Z 210)), (1, .int l1), (2, .int l2)]) hx hb dX0_nearestTaker_46 hl (k := 3) rfl (by rw [e10]; rfl) (by decide) rfl (fun ls hl => ?_)
  refine lv_goto (tgt := 7) hx hb dX0_nearestTaker_49 (by decide) ?_
  exact hc7 σ l1 l2 v9 h H locs hP hS ls (lv_sub hl [1, 2, 3, 0] rfl)
def m_X0_nearestTaker_7_s    (c7 : SG → Int32 → Int32 → Int32 → Option (Int32 × SG)) (σ : SG) (l1 : Int32) (l2 : Int32) (l3 : Int32) : Option (Int32 × SG) :=
  if (σ.1 (208 + 1) 3) ≤ l3 then (some (l1, σ)) else (gB (inB l3 24) (if ¬ (σ.1 143 l3.toNatClampNeg) = 0 then (m_X0_nearestTaker_46   c7 σ l1 l2 l3) else (gB (inB l3 24) (if l2 ≤ (σ.1 37 l3.toNatClampNeg) then (m_X0_nearestTaker_46   c7 σ l1 l2 l3) else (gB (inB l3 24) (lS (σ.1 37 l3.toNatClampNeg) (fun v7 => m_X0_nearestTaker_46   c7 σ l3 v7 l3)))))))
def m_X0_nearestTaker_7    : Nat → SG → Int32 → Int32 → Int32 → Option (Int32 × SG)
  | 0, _, _, _, _ => none
  | n + 1, σ, l1, l2, l3 => m_X0_nearestTaker_7_s    (m_X0_nearestTaker_7    n) σ l1 l2 l3
set_option maxHeartbeats 4000000 in
set_option maxRecDepth 100000 in
theorem kb_X0_nearestTaker_7 {p : Program} {l : Launch} {e : Env} {s : State} {m : MethodId} {args : Array Value} {below : List Frame} {meth : Method} {c : Code} {E : EF} (Z : ZT)    (C : cy p s m args meth c cX0_nearestTaker (some .int) 4 RX0 wsX0_nearestTaker E (zD Z) vwCl 211 (za Z) (tysX Z)) {res : Int32 × SG}   : ∀ (n : Nat) (σ : SG) (l1 : Int32) (l2 : Int32) (l3 : Int32) , m_X0_nearestTaker_7    n σ l1 l2 l3 = some res → ∀ (H : Heap) (locs : List Loc), ws_P (zD Z) vwCl 211 (za Z) (tX Z) σ H → va_S (ws_A 211 (za Z)) s.heap H locs → ∀ (ls : Array Slot), lv_has ls 4 [(0, .ref (za Z 210)), (1, .int l1), (2, .int l2), (3, .int l3)] → W p l e rm_X0_nearestTaker s m args below meth c H locs 0 0 (MQ below (xQi E (zD Z) vwCl 211 (za Z) (tX Z) (tysX Z) res) args s 0 0 (ws_A 211 (za Z))) (F0 m 7 ls []) := by
  have C0 := C
  obtain ⟨hx, hb, hr, hlocks, hml, hown, hts, hE, hJ, hK⟩ := C0
  intro n
  induction n with
  | zero =>
    intro σ l1 l2 l3  h
    cases h
  | succ n ih =>
    intro σ l1 l2 l3  h H locs hP hS ls hl
    have hc7 : ∀ (σ : SG) (l1 : Int32) (l2 : Int32) (l3 : Int32) , m_X0_nearestTaker_7    n σ l1 l2 l3 = some res → ∀ (H : Heap) (locs : List Loc), ws_P (zD Z) vwCl 211 (za Z) (tX Z) σ H → va_S (ws_A 211 (za Z)) s.heap H locs → ∀ (ls : Array Slot), lv_has ls 4 [(0, .ref (za Z 210)), (1, .int l1), (2, .int l2), (3, .int l3)] → W p l e rm_X0_nearestTaker s m args below meth c H locs 0 0 (MQ below (xQi E (zD Z) vwCl 211 (za Z) (tX Z) (tysX Z) res) args s 0 0 (ws_A 211 (za Z))) (F0 m 7 ls []) := ih
    have h : m_X0_nearestTaker_7_s    (m_X0_nearestTaker_7    n) σ l1 l2 l3 = some res := h
    unfold m_X0_nearestTaker_7_s at h
    refine lv_iload_n hx hb dX0_nearestTaker_7 rfl (lv_at hl 3 rfl) ?_
    refine lv_aload_n hx hb dX0_nearestTaker_8 rfl (lv_at hl 0 rfl) ?_
    refine wr_get (C := RX0) (T := TX0) (N := 11) hx hb hts (in_X0_nearestTaker_X0) hown hK hP (k := 210) (by decide) ((tX_Carrier Z) _ _ _) rfl 1 (by decide) (hts (.fieldLink RX0 20 "TuneSearch$Carrier" "takers" "LTuneSearch$Load;") (by decide +kernel)) (fun _ h9 => h9) rfl dX0_nearestTaker_9 ?_
    refine wr_get (C := RX3) (T := TX3) (N := 5) hx hb hts (in_X0_nearestTaker_X3) hown hK hP (k := (208 + 1)) (by omega) ((tX_Load Z 1 (by decide)) _ _ _) rfl 3 (by decide) (hts (.fieldLink RX0 66 "TuneSearch$Load" "count" "I") (by decide +kernel)) (fun _ h9 => h9) rfl dX0_nearestTaker_12 ?_
    refine lv_icmp_ge (tgt := 52) hx hb dX0_nearestTaker_15 (by decide) (fun q1 => ?_) (fun q1 => ?_)
    · have h := if_p h q1
      refine lv_iload_n hx hb dX0_nearestTaker_52 rfl (lv_at hl 1 rfl) ?_
      exact xr_iret hx hb hr hlocks hE hJ hK hP hS h dX0_nearestTaker_53
    · have h := if_n h q1
      refine lv_aload_n hx hb dX0_nearestTaker_18 rfl (lv_at hl 0 rfl) ?_
      refine wr_get (C := RX0) (T := TX0) (N := 11) hx hb hts (in_X0_nearestTaker_X0) hown hK hP (k := 210) (by decide) ((tX_Carrier Z) _ _ _) rfl 10 (by decide) (hts (.fieldLink RX0 50 "TuneSearch$Carrier" "takerDone" "[Z") (by decide +kernel)) (fun _ h9 => h9) rfl dX0_nearestTaker_19 ?_
      refine lv_iload_n hx hb dX0_nearestTaker_22 rfl (lv_at hl 3 rfl) ?_
      obtain ⟨b2, h⟩ := gB_e h
      refine wr_zald hx hb hK hP (k := 143) (by decide) 2 ((tX_Z Z) _ _ _) rfl b2 dX0_nearestTaker_23 ?_
      refine lv_if_ne (tgt := 46) hx hb dX0_nearestTaker_24 (by decide) (fun q3 => ?_) (fun q3 => ?_)
      · have h := if_p h q3
        exact kb_X0_nearestTaker_46 Z    C  hc7 σ l1 l2 l3 h H locs hP hS ls (lv_sub hl [0, 1, 2, 3] rfl)
      · have h := if_n h (fun z => z q3)
        refine lv_aload_n hx hb dX0_nearestTaker_27 rfl (lv_at hl 0 rfl) ?_
        refine wr_get (C := RX0) (T := TX0) (N := 11) hx hb hts (in_X0_nearestTaker_X0) hown hK hP (k := 210) (by decide) ((tX_Carrier Z) _ _ _) rfl 7 (by decide) (hts (.fieldLink RX0 41 "TuneSearch$Carrier" "takerReach" "[I") (by decide +kernel)) (fun _ h9 => h9) rfl dX0_nearestTaker_28 ?_
        refine lv_iload_n hx hb dX0_nearestTaker_31 rfl (lv_at hl 3 rfl) ?_
        obtain ⟨b4, h⟩ := gB_e h
        refine wr_iald hx hb hK hP (k := 37) (by decide) 0 ((tX_I Z 37 (by decide)) _ _ _) rfl b4 dX0_nearestTaker_32 ?_
        refine lv_iload_n hx hb dX0_nearestTaker_33 rfl (lv_at hl 2 rfl) ?_
        refine lv_icmp_ge (tgt := 46) hx hb dX0_nearestTaker_34 (by decide) (fun q5 => ?_) (fun q5 => ?_)
        · have h := if_p h q5
          exact kb_X0_nearestTaker_46 Z    C  hc7 σ l1 l2 l3 h H locs hP hS ls (lv_sub hl [0, 1, 2, 3] rfl)
        · have h := if_n h q5
          refine lv_iload_n hx hb dX0_nearestTaker_37 rfl (lv_at hl 3 rfl) ?_
          refine lv_istore_n (lv' := [(1, .int l3), (0, .ref (za Z 210)), (2, .int l2), (3, .int l3)]) hx hb dX0_nearestTaker_38 rfl hl (by decide) rfl (fun ls hl => ?_)
          refine lv_aload_n hx hb dX0_nearestTaker_39 rfl (lv_at hl 1 rfl) ?_
          refine wr_get (C := RX0) (T := TX0) (N := 11) hx hb hts (in_X0_nearestTaker_X0) hown hK hP (k := 210) (by decide) ((tX_Carrier Z) _ _ _) rfl 7 (by decide) (hts (.fieldLink RX0 41 "TuneSearch$Carrier" "takerReach" "[I") (by decide +kernel)) (fun _ h9 => h9) rfl dX0_nearestTaker_40 ?_
          refine lv_iload_n hx hb dX0_nearestTaker_43 rfl (lv_at hl 3 rfl) ?_
          obtain ⟨b6, h⟩ := gB_e h
          refine wr_iald hx hb hK hP (k := 37) (by decide) 0 ((tX_I Z 37 (by decide)) _ _ _) rfl b6 dX0_nearestTaker_44 ?_
          refine lv_topi (fun v7 e8 => ?_)
          have h := lS_u h e8
          refine lv_istore_n (lv' := [(2, .int v7), (1, .int l3), (0, .ref (za Z 210)), (3, .int l3)]) hx hb dX0_nearestTaker_45 rfl hl (by decide) rfl (fun ls hl => ?_)
          exact kb_X0_nearestTaker_46 Z    C  hc7 σ l3 v7 l3 h H locs hP hS ls (lv_sub hl [2, 1, 0, 3] rfl)
def m_X0_nearestTaker_0    (σ : SG)  : Option (Int32 × SG) :=
  m_X0_nearestTaker_7    FV σ (-1) 2147483647 0
set_option maxHeartbeats 4000000 in
set_option maxRecDepth 100000 in
theorem kb_X0_nearestTaker_0 {p : Program} {l : Launch} {e : Env} {s : State} {m : MethodId} {args : Array Value} {below : List Frame} {meth : Method} {c : Code} {E : EF} (Z : ZT)    (C : cy p s m args meth c cX0_nearestTaker (some .int) 4 RX0 wsX0_nearestTaker E (zD Z) vwCl 211 (za Z) (tysX Z)) {res : Int32 × SG}   : ∀ (σ : SG)  , m_X0_nearestTaker_0    σ  = some res → ∀ (H : Heap) (locs : List Loc), ws_P (zD Z) vwCl 211 (za Z) (tX Z) σ H → va_S (ws_A 211 (za Z)) s.heap H locs → ∀ (ls : Array Slot), lv_has ls 4 [(0, .ref (za Z 210))] → W p l e rm_X0_nearestTaker s m args below meth c H locs 0 0 (MQ below (xQi E (zD Z) vwCl 211 (za Z) (tX Z) (tysX Z) res) args s 0 0 (ws_A 211 (za Z))) (F0 m 0 ls []) := by
  have C0 := C
  obtain ⟨hx, hb, hr, hlocks, hml, hown, hts, hE, hJ, hK⟩ := C0
  intro σ   h H locs hP hS ls hl
  unfold m_X0_nearestTaker_0 at h
  refine lv_iconst (v := (-1)) hx hb dX0_nearestTaker_0 (by decide) ?_
  refine lv_istore_n (lv' := [(1, .int (-1)), (0, .ref (za Z 210))]) hx hb dX0_nearestTaker_1 rfl hl (by decide) rfl (fun ls hl => ?_)
  refine lv_ldc (v := 2147483647) hx hb hown (hts (.constant RX0 107 2147483647) (by decide +kernel)) dX0_nearestTaker_2 ?_
  refine lv_istore_n (lv' := [(2, .int 2147483647), (1, .int (-1)), (0, .ref (za Z 210))]) hx hb dX0_nearestTaker_4 rfl hl (by decide) rfl (fun ls hl => ?_)
  refine lv_iconst (v := 0) hx hb dX0_nearestTaker_5 (by decide) ?_
  refine lv_istore_n (lv' := [(3, .int 0), (2, .int 2147483647), (1, .int (-1)), (0, .ref (za Z 210))]) hx hb dX0_nearestTaker_6 rfl hl (by decide) rfl (fun ls hl => ?_)
  exact kb_X0_nearestTaker_7 Z    C   FV σ (-1) 2147483647 0 h H locs hP hS ls (lv_sub hl [3, 2, 1, 0] rfl)
def m_X0_nearestTaker   (σ : SG)  : Option (Int32 × SG) := m_X0_nearestTaker_0   σ 
set_option maxHeartbeats 4000000 in
set_option maxRecDepth 100000 in
theorem k_X0_nearestTaker (l : Launch) {E : EF} (Z : ZT)    (σ : SG)  {res : Int32 × SG} (h : m_X0_nearestTaker   σ  = some res) : Met l yX0_nearestTaker wsX0_nearestTaker rm_X0_nearestTaker (va_Pc [.ref (za Z 210)] (wx E (zD Z) vwCl 211 (za Z) (tX Z) (tysX Z) σ)) (xQi E (zD Z) vwCl 211 (za Z) (tX Z) (tysX Z) res) 0 0 (ws_A 211 (za Z)) := by
  refine Met.ofW (cc := cX0_nearestTaker) (maxL := 4) (ret := (some .int)) (by decide) rfl ?_
  intro p e s m args below meth c s₁ B hml hv
  obtain ⟨rfl, hE, hJ, hP, hK⟩ := hv
  have hl := lv_entry ([.ref (za Z 210)]) (n := 4) (Nat.le_of_ble_eq_true rfl)
  rw [lg_entry_eq]
  generalize (lg_sl ([.ref (za Z 210)]) ++ List.replicate (4 - (lg_sl ([.ref (za Z 210)])).length) Slot.unset).toArray = ls at hl ⊢
  exact kb_X0_nearestTaker_0 Z    ⟨B.exec, B.bytes, B.returns, B.notSynchronized, hml, findClass_of_methodNamed B.named, atoms_spec (ws := wsX0_nearestTaker) B.pre, hE, hJ, hK⟩ σ  h s.heap [] hP va_S.rf ls hl
/-! TuneSearch$Carrier.reachGiversOf(I)V -/
abbrev rm_X0_reachGiversOf : Room := { frames := 1, cells := 0, slots := 0, locals := 25 }
theorem in_X0_reachGiversOf_X0 : ∀ w ∈ wsX00, w ∈ wsX0_reachGiversOf := by decide +kernel
theorem in_X0_reachGiversOf_X3 : ∀ w ∈ wsX30, w ∈ wsX0_reachGiversOf := by decide +kernel
def m_X0_reachGiversOf_46   (c2 : SG → Int32 → Int32 → Option (Unit × SG)) (σ : SG) (l1 : Int32) (l2 : Int32) : Option (Unit × SG) :=
  lS (l2 + 1) (fun v12 => c2 σ l1 v12)
set_option maxHeartbeats 4000000 in
set_option maxRecDepth 100000 in
theorem kb_X0_reachGiversOf_46 {p : Program} {l : Launch} {e : Env} {s : State} {m : MethodId} {args : Array Value} {below : List Frame} {meth : Method} {c : Code} {E : EF} (Z : ZT)    (C : cy p s m args meth c cX0_reachGiversOf none 3 RX0 wsX0_reachGiversOf E (zD Z) vwCl 211 (za Z) (tysX Z)) {res : Unit × SG} {c2 : SG → Int32 → Int32 → Option (Unit × SG)} (hc2 : ∀ (σ : SG) (l1 : Int32) (l2 : Int32) , c2 σ l1 l2 = some res → ∀ (H : Heap) (locs : List Loc), ws_P (zD Z) vwCl 211 (za Z) (tX Z) σ H → va_S (ws_A 211 (za Z)) s.heap H locs → ∀ (ls : Array Slot), lv_has ls 3 [(0, .ref (za Z 210)), (1, .int l1), (2, .int l2)] → W p l e rm_X0_reachGiversOf s m args below meth c H locs 0 0 (MQ below (xQv E (zD Z) vwCl 211 (za Z) (tX Z) (tysX Z) res) args s 0 0 (ws_A 211 (za Z))) (F0 m 2 ls [])) : ∀ (σ : SG) (l1 : Int32) (l2 : Int32) , m_X0_reachGiversOf_46   c2 σ l1 l2 = some res → ∀ (H : Heap) (locs : List Loc), ws_P (zD Z) vwCl 211 (za Z) (tX Z) σ H → va_S (ws_A 211 (za Z)) s.heap H locs → ∀ (ls : Array Slot), lv_has ls 3 [(0, .ref (za Z 210)), (1, .int l1), (2, .int l2)] → W p l e rm_X0_reachGiversOf s m args below meth c H locs 0 0 (MQ below (xQv E (zD Z) vwCl 211 (za Z) (tX Z) (tysX Z) res) args s 0 0 (ws_A 211 (za Z))) (F0 m 46 ls []) := by
  have C0 := C
  obtain ⟨hx, hb, hr, hlocks, hml, hown, hts, hE, hJ, hK⟩ := C0
  intro σ l1 l2  h H locs hP hS ls hl
  unfold m_X0_reachGiversOf_46 at h
  obtain ⟨v12, e13, h⟩ := lS_e h
  refine lv_iinc (v := v12) (lv' := [(2, .int v12), (0, .ref (za Z 210)), (1, .int l1)]) hx hb dX0_reachGiversOf_46 hl (k := 2) rfl (by rw [e13]; rfl) (by decide) rfl (fun ls hl => ?_)
  refine lv_goto (tgt := 2) hx hb dX0_reachGiversOf_49 (by decide) ?_
  exact hc2 σ l1 v12 h H locs hP hS ls (lv_sub hl [1, 2, 0] rfl)
def m_X0_reachGiversOf_2_s    (c2 : SG → Int32 → Int32 → Option (Unit × SG)) (σ : SG) (l1 : Int32) (l2 : Int32) : Option (Unit × SG) :=
  if (σ.1 (208 + 0) 3) ≤ l2 then (some ((), σ)) else (gB (inB l2 24) (gB (inB l1 24) (if (σ.1 (119 + l2.toNatClampNeg) l1.toNatClampNeg) ≤ 0 then (m_X0_reachGiversOf_46   c2 σ l1 l2) else (gB (inB l2 24) (if ¬ (σ.1 36 l2.toNatClampNeg) = (-1) then (m_X0_reachGiversOf_46   c2 σ l1 l2) else (gB (inB l1 24) (bi (m_X0_reachGiver  σ l2 (σ.1 37 l1.toNatClampNeg) l1) (fun v9 σ10 => m_X0_reachGiversOf_46   c2 σ10 l1 l2))))))))
def m_X0_reachGiversOf_2    : Nat → SG → Int32 → Int32 → Option (Unit × SG)
  | 0, _, _, _ => none
  | n + 1, σ, l1, l2 => m_X0_reachGiversOf_2_s    (m_X0_reachGiversOf_2    n) σ l1 l2
set_option maxHeartbeats 4000000 in
set_option maxRecDepth 100000 in
theorem kb_X0_reachGiversOf_2 {p : Program} {l : Launch} {e : Env} {s : State} {m : MethodId} {args : Array Value} {below : List Frame} {meth : Method} {c : Code} {E : EF} (Z : ZT)    (C : cy p s m args meth c cX0_reachGiversOf none 3 RX0 wsX0_reachGiversOf E (zD Z) vwCl 211 (za Z) (tysX Z)) {res : Unit × SG}   : ∀ (n : Nat) (σ : SG) (l1 : Int32) (l2 : Int32) , m_X0_reachGiversOf_2    n σ l1 l2 = some res → ∀ (H : Heap) (locs : List Loc), ws_P (zD Z) vwCl 211 (za Z) (tX Z) σ H → va_S (ws_A 211 (za Z)) s.heap H locs → ∀ (ls : Array Slot), lv_has ls 3 [(0, .ref (za Z 210)), (1, .int l1), (2, .int l2)] → W p l e rm_X0_reachGiversOf s m args below meth c H locs 0 0 (MQ below (xQv E (zD Z) vwCl 211 (za Z) (tX Z) (tysX Z) res) args s 0 0 (ws_A 211 (za Z))) (F0 m 2 ls []) := by
  have C0 := C
  obtain ⟨hx, hb, hr, hlocks, hml, hown, hts, hE, hJ, hK⟩ := C0
  intro n
  induction n with
  | zero =>
    intro σ l1 l2  h
    cases h
  | succ n ih =>
    intro σ l1 l2  h H locs hP hS ls hl
    have hc2 : ∀ (σ : SG) (l1 : Int32) (l2 : Int32) , m_X0_reachGiversOf_2    n σ l1 l2 = some res → ∀ (H : Heap) (locs : List Loc), ws_P (zD Z) vwCl 211 (za Z) (tX Z) σ H → va_S (ws_A 211 (za Z)) s.heap H locs → ∀ (ls : Array Slot), lv_has ls 3 [(0, .ref (za Z 210)), (1, .int l1), (2, .int l2)] → W p l e rm_X0_reachGiversOf s m args below meth c H locs 0 0 (MQ below (xQv E (zD Z) vwCl 211 (za Z) (tX Z) (tysX Z) res) args s 0 0 (ws_A 211 (za Z))) (F0 m 2 ls []) := ih
    have h : m_X0_reachGiversOf_2_s    (m_X0_reachGiversOf_2    n) σ l1 l2 = some res := h
    unfold m_X0_reachGiversOf_2_s at h
    refine lv_iload_n hx hb dX0_reachGiversOf_2 rfl (lv_at hl 2 rfl) ?_
    refine lv_aload_n hx hb dX0_reachGiversOf_3 rfl (lv_at hl 0 rfl) ?_
    refine wr_get (C := RX0) (T := TX0) (N := 11) hx hb hts (in_X0_reachGiversOf_X0) hown hK hP (k := 210) (by decide) ((tX_Carrier Z) _ _ _) rfl 0 (by decide) (hts (.fieldLink RX0 14 "TuneSearch$Carrier" "givers" "LTuneSearch$Load;") (by decide +kernel)) (fun _ h9 => h9) rfl dX0_reachGiversOf_4 ?_
    refine wr_get (C := RX3) (T := TX3) (N := 5) hx hb hts (in_X0_reachGiversOf_X3) hown hK hP (k := (208 + 0)) (by omega) ((tX_Load Z 0 (by decide)) _ _ _) rfl 3 (by decide) (hts (.fieldLink RX0 66 "TuneSearch$Load" "count" "I") (by decide +kernel)) (fun _ h9 => h9) rfl dX0_reachGiversOf_7 ?_
    refine lv_icmp_ge (tgt := 52) hx hb dX0_reachGiversOf_10 (by decide) (fun q1 => ?_) (fun q1 => ?_)
    · have h := if_p h q1
      exact xr_vret hx hb hr hlocks hE hJ hK hP hS h dX0_reachGiversOf_52
    · have h := if_n h q1
      refine lv_aload_n hx hb dX0_reachGiversOf_13 rfl (lv_at hl 0 rfl) ?_
      refine wr_get (C := RX0) (T := TX0) (N := 11) hx hb hts (in_X0_reachGiversOf_X0) hown hK hP (k := 210) (by decide) ((tX_Carrier Z) _ _ _) rfl 3 (by decide) (hts (.fieldLink RX0 28 "TuneSearch$Carrier" "sent" "[[I") (by decide +kernel)) (fun _ h9 => h9) rfl dX0_reachGiversOf_14 ?_
      refine lv_iload_n hx hb dX0_reachGiversOf_17 rfl (lv_at hl 2 rfl) ?_
      obtain ⟨b2, h⟩ := gB_e h
      have hi3 := inB_lt b2
      refine wr_aald hx hb hK hP (k := 154) (by decide) 5 rfl ((tX_sentO Z) _ _ _) rfl b2 (row_at hi3) dX0_reachGiversOf_18 ?_
      refine lv_iload_n hx hb dX0_reachGiversOf_19 rfl (lv_at hl 1 rfl) ?_
      obtain ⟨b4, h⟩ := gB_e h
      refine wr_iald hx hb hK hP (k := (119 + l2.toNatClampNeg)) (by omega) 0 ((tX_sent Z l2.toNatClampNeg hi3) _ _ _) rfl b4 dX0_reachGiversOf_20 ?_
      refine lv_if_le (tgt := 46) hx hb dX0_reachGiversOf_21 (by decide) (fun q5 => ?_) (fun q5 => ?_)
      · have h := if_p h q5
        exact kb_X0_reachGiversOf_46 Z    C  hc2 σ l1 l2 h H locs hP hS ls (lv_sub hl [0, 1, 2] rfl)
      · have h := if_n h q5
        refine lv_aload_n hx hb dX0_reachGiversOf_24 rfl (lv_at hl 0 rfl) ?_
        refine wr_get (C := RX0) (T := TX0) (N := 11) hx hb hts (in_X0_reachGiversOf_X0) hown hK hP (k := 210) (by decide) ((tX_Carrier Z) _ _ _) rfl 6 (by decide) (hts (.fieldLink RX0 38 "TuneSearch$Carrier" "giverReach" "[I") (by decide +kernel)) (fun _ h9 => h9) rfl dX0_reachGiversOf_25 ?_
        refine lv_iload_n hx hb dX0_reachGiversOf_28 rfl (lv_at hl 2 rfl) ?_
        obtain ⟨b6, h⟩ := gB_e h
        refine wr_iald hx hb hK hP (k := 36) (by decide) 0 ((tX_I Z 36 (by decide)) _ _ _) rfl b6 dX0_reachGiversOf_29 ?_
        refine lv_iconst (v := (-1)) hx hb dX0_reachGiversOf_30 (by decide) ?_
        refine lv_icmp_ne (tgt := 46) hx hb dX0_reachGiversOf_31 (by decide) (fun q7 => ?_) (fun q7 => ?_)
        · have h := if_p h q7
          exact kb_X0_reachGiversOf_46 Z    C  hc2 σ l1 l2 h H locs hP hS ls (lv_sub hl [0, 1, 2] rfl)
        · have h := if_n h (fun z => z q7)
          refine lv_aload_n hx hb dX0_reachGiversOf_34 rfl (lv_at hl 0 rfl) ?_
          refine lv_iload_n hx hb dX0_reachGiversOf_35 rfl (lv_at hl 2 rfl) ?_
          refine lv_aload_n hx hb dX0_reachGiversOf_36 rfl (lv_at hl 0 rfl) ?_
          refine wr_get (C := RX0) (T := TX0) (N := 11) hx hb hts (in_X0_reachGiversOf_X0) hown hK hP (k := 210) (by decide) ((tX_Carrier Z) _ _ _) rfl 7 (by decide) (hts (.fieldLink RX0 41 "TuneSearch$Carrier" "takerReach" "[I") (by decide +kernel)) (fun _ h9 => h9) rfl dX0_reachGiversOf_37 ?_
          refine lv_iload_n hx hb dX0_reachGiversOf_40 rfl (lv_at hl 1 rfl) ?_
          obtain ⟨b8, h⟩ := gB_e h
          refine wr_iald hx hb hK hP (k := 37) (by decide) 0 ((tX_I Z 37 (by decide)) _ _ _) rfl b8 dX0_reachGiversOf_41 ?_
          refine lv_iload_n hx hb dX0_reachGiversOf_42 rfl (lv_at hl 1 rfl) ?_
          obtain ⟨v9, σ10, hm11, h⟩ := bi_e h
          refine xr_callv (res := (v9, σ10)) (va_runV (As := [.int l2, .int (σ.1 37 l1.toNatClampNeg), .int l1]) (rest := []) ⟨hx, hb, hml, hown, hts⟩ (k_X0_reachGiver l Z   σ l2 (σ.1 37 l1.toNatClampNeg) l1 hm11) (cwV 3 hts gX0_reachGiversOf_X0_reachGiver rfl rfl rfl (by decide +kernel) ⟨Nat.le_of_ble_eq_true rfl, Nat.le_of_ble_eq_true rfl⟩) ⟨wx_blind, wr_recv hK hP (k := 210) (by decide) ((tX_Carrier Z) _ _ _) rfl, fun U hU hW => ⟨rfl, wx_at hE hJ hP hK hS hU hW⟩⟩ rfl rfl hl.1 rfl (lv_room (Nat.le_of_ble_eq_true rfl)) dX0_reachGiversOf_43 ⟨Nat.le_of_ble_eq_true rfl, Nat.le_of_ble_eq_true rfl⟩) hS (fun H locs hP hS => ?_)
          have hP : ws_P (zD Z) vwCl 211 (za Z) (tX Z) σ10 H := hP
          exact kb_X0_reachGiversOf_46 Z    C  hc2 σ10 l1 l2 h H locs hP hS ls (lv_sub hl [0, 1, 2] rfl)
def m_X0_reachGiversOf_0    (σ : SG) (p0 : Int32) : Option (Unit × SG) :=
  m_X0_reachGiversOf_2    FV σ p0 0
set_option maxHeartbeats 4000000 in
set_option maxRecDepth 100000 in
theorem kb_X0_reachGiversOf_0 {p : Program} {l : Launch} {e : Env} {s : State} {m : MethodId} {args : Array Value} {below : List Frame} {meth : Method} {c : Code} {E : EF} (Z : ZT)    (C : cy p s m args meth c cX0_reachGiversOf none 3 RX0 wsX0_reachGiversOf E (zD Z) vwCl 211 (za Z) (tysX Z)) {res : Unit × SG}   : ∀ (σ : SG) (p0 : Int32) , m_X0_reachGiversOf_0    σ p0 = some res → ∀ (H : Heap) (locs : List Loc), ws_P (zD Z) vwCl 211 (za Z) (tX Z) σ H → va_S (ws_A 211 (za Z)) s.heap H locs → ∀ (ls : Array Slot), lv_has ls 3 [(0, .ref (za Z 210)), (1, .int p0)] → W p l e rm_X0_reachGiversOf s m args below meth c H locs 0 0 (MQ below (xQv E (zD Z) vwCl 211 (za Z) (tX Z) (tysX Z) res) args s 0 0 (ws_A 211 (za Z))) (F0 m 0 ls []) := by
  have C0 := C
  obtain ⟨hx, hb, hr, hlocks, hml, hown, hts, hE, hJ, hK⟩ := C0
  intro σ p0  h H locs hP hS ls hl
  unfold m_X0_reachGiversOf_0 at h
  refine lv_iconst (v := 0) hx hb dX0_reachGiversOf_0 (by decide) ?_
  refine lv_istore_n (lv' := [(2, .int 0), (0, .ref (za Z 210)), (1, .int p0)]) hx hb dX0_reachGiversOf_1 rfl hl (by decide) rfl (fun ls hl => ?_)
  exact kb_X0_reachGiversOf_2 Z    C   FV σ p0 0 h H locs hP hS ls (lv_sub hl [1, 2, 0] rfl)
def m_X0_reachGiversOf   (σ : SG) (p0 : Int32) : Option (Unit × SG) := m_X0_reachGiversOf_0   σ p0
set_option maxHeartbeats 4000000 in
set_option maxRecDepth 100000 in
theorem k_X0_reachGiversOf (l : Launch) {E : EF} (Z : ZT)    (σ : SG) (p0 : Int32) {res : Unit × SG} (h : m_X0_reachGiversOf   σ p0 = some res) : Met l yX0_reachGiversOf wsX0_reachGiversOf rm_X0_reachGiversOf (va_Pc [.ref (za Z 210), .int p0] (wx E (zD Z) vwCl 211 (za Z) (tX Z) (tysX Z) σ)) (xQv E (zD Z) vwCl 211 (za Z) (tX Z) (tysX Z) res) 0 0 (ws_A 211 (za Z)) := by
  refine Met.ofW (cc := cX0_reachGiversOf) (maxL := 3) (ret := none) (by decide) rfl ?_
  intro p e s m args below meth c s₁ B hml hv
  obtain ⟨rfl, hE, hJ, hP, hK⟩ := hv
  have hl := lv_entry ([.ref (za Z 210), .int p0]) (n := 3) (Nat.le_of_ble_eq_true rfl)
  rw [lg_entry_eq]
  generalize (lg_sl ([.ref (za Z 210), .int p0]) ++ List.replicate (3 - (lg_sl ([.ref (za Z 210), .int p0])).length) Slot.unset).toArray = ls at hl ⊢
  exact kb_X0_reachGiversOf_0 Z    ⟨B.exec, B.bytes, B.returns, B.notSynchronized, hml, findClass_of_methodNamed B.named, atoms_spec (ws := wsX0_reachGiversOf) B.pre, hE, hJ, hK⟩ σ p0 h s.heap [] hP va_S.rf ls hl
/-! TuneSearch$Carrier.nearestOpenTaker(I)I -/
abbrev rm_X0_nearestOpenTaker : Room := { frames := 2, cells := 0, slots := 0, locals := 47 }
theorem in_X0_nearestOpenTaker_X0 : ∀ w ∈ wsX00, w ∈ wsX0_nearestOpenTaker := by decide +kernel
theorem in_X0_nearestOpenTaker_X3 : ∀ w ∈ wsX30, w ∈ wsX0_nearestOpenTaker := by decide +kernel
def m_X0_nearestOpenTaker_51_s    (c51 : SG → Int32 → Option (Int32 × SG)) (σ : SG) (l2 : Int32) : Option (Int32 × SG) :=
  if (σ.1 (208 + 1) 3) ≤ l2 then (some ((-1), σ)) else (bi (m_X0_nearestTaker  σ ) (fun v17 σ18 => if v17 = (-1) then (some (v17, σ18)) else (gB (inB v17 24) (if (σ18.1 (32 + 1) v17.toNatClampNeg) ≤ 0 then (gB (inB v17 24) (lS (sI σ18 143 v17.toNatClampNeg 1) (fun σ24 => bi (m_X0_reachGiversOf  σ24 v17) (fun v26 σ27 => lS (l2 + 1) (fun v29 => c51 σ27 v29))))) else (some (v17, σ18))))))
def m_X0_nearestOpenTaker_51    : Nat → SG → Int32 → Option (Int32 × SG)
  | 0, _, _ => none
  | n + 1, σ, l2 => m_X0_nearestOpenTaker_51_s    (m_X0_nearestOpenTaker_51    n) σ l2
set_option maxHeartbeats 4000000 in
set_option maxRecDepth 100000 in
theorem kb_X0_nearestOpenTaker_51 {p : Program} {l : Launch} {e : Env} {s : State} {m : MethodId} {args : Array Value} {below : List Frame} {meth : Method} {c : Code} {E : EF} (Z : ZT)    (C : cy p s m args meth c cX0_nearestOpenTaker (some .int) 4 RX0 wsX0_nearestOpenTaker E (zD Z) vwCl 211 (za Z) (tysX Z)) {res : Int32 × SG}   : ∀ (n : Nat) (σ : SG) (l2 : Int32) , m_X0_nearestOpenTaker_51    n σ l2 = some res → ∀ (H : Heap) (locs : List Loc), ws_P (zD Z) vwCl 211 (za Z) (tX Z) σ H → va_S (ws_A 211 (za Z)) s.heap H locs → ∀ (ls : Array Slot), lv_has ls 4 [(0, .ref (za Z 210)), (2, .int l2)] → W p l e rm_X0_nearestOpenTaker s m args below meth c H locs 0 0 (MQ below (xQi E (zD Z) vwCl 211 (za Z) (tX Z) (tysX Z) res) args s 0 0 (ws_A 211 (za Z))) (F0 m 51 ls []) := by
  have C0 := C
  obtain ⟨hx, hb, hr, hlocks, hml, hown, hts, hE, hJ, hK⟩ := C0
  intro n
  induction n with
  | zero =>
    intro σ l2  h
    cases h
  | succ n ih =>
    intro σ l2  h H locs hP hS ls hl
    have hc51 : ∀ (σ : SG) (l2 : Int32) , m_X0_nearestOpenTaker_51    n σ l2 = some res → ∀ (H : Heap) (locs : List Loc), ws_P (zD Z) vwCl 211 (za Z) (tX Z) σ H → va_S (ws_A 211 (za Z)) s.heap H locs → ∀ (ls : Array Slot), lv_has ls 4 [(0, .ref (za Z 210)), (2, .int l2)] → W p l e rm_X0_nearestOpenTaker s m args below meth c H locs 0 0 (MQ below (xQi E (zD Z) vwCl 211 (za Z) (tX Z) (tysX Z) res) args s 0 0 (ws_A 211 (za Z))) (F0 m 51 ls []) := ih
    have h : m_X0_nearestOpenTaker_51_s    (m_X0_nearestOpenTaker_51    n) σ l2 = some res := h
    unfold m_X0_nearestOpenTaker_51_s at h
    refine lv_iload_n hx hb dX0_nearestOpenTaker_51 rfl (lv_at hl 1 rfl) ?_
    refine lv_aload_n hx hb dX0_nearestOpenTaker_52 rfl (lv_at hl 0 rfl) ?_
    refine wr_get (C := RX0) (T := TX0) (N := 11) hx hb hts (in_X0_nearestOpenTaker_X0) hown hK hP (k := 210) (by decide) ((tX_Carrier Z) _ _ _) rfl 1 (by decide) (hts (.fieldLink RX0 20 "TuneSearch$Carrier" "takers" "LTuneSearch$Load;") (by decide +kernel)) (fun _ h9 => h9) rfl dX0_nearestOpenTaker_53 ?_
    refine wr_get (C := RX3) (T := TX3) (N := 5) hx hb hts (in_X0_nearestOpenTaker_X3) hown hK hP (k := (208 + 1)) (by omega) ((tX_Load Z 1 (by decide)) _ _ _) rfl 3 (by decide) (hts (.fieldLink RX0 66 "TuneSearch$Load" "count" "I") (by decide +kernel)) (fun _ h9 => h9) rfl dX0_nearestOpenTaker_56 ?_
    refine lv_icmp_ge (tgt := 104) hx hb dX0_nearestOpenTaker_59 (by decide) (fun q16 => ?_) (fun q16 => ?_)
    · have h := if_p h q16
      refine lv_iconst (v := (-1)) hx hb dX0_nearestOpenTaker_104 (by decide) ?_
      exact xr_iret hx hb hr hlocks hE hJ hK hP hS h dX0_nearestOpenTaker_105
    · have h := if_n h q16
      refine lv_aload_n hx hb dX0_nearestOpenTaker_62 rfl (lv_at hl 0 rfl) ?_
      obtain ⟨v17, σ18, hm19, h⟩ := bi_e h
      refine xr_calli (res := (v17, σ18)) (va_runV (As := []) (rest := []) ⟨hx, hb, hml, hown, hts⟩ (k_X0_nearestTaker l Z   σ  hm19) (cwV 0 hts gX0_nearestOpenTaker_X0_nearestTaker rfl rfl rfl (by decide +kernel) ⟨Nat.le_of_ble_eq_true rfl, Nat.le_of_ble_eq_true rfl⟩) ⟨wx_blind, wr_recv hK hP (k := 210) (by decide) ((tX_Carrier Z) _ _ _) rfl, fun U hU hW => ⟨rfl, wx_at hE hJ hP hK hS hU hW⟩⟩ rfl rfl hl.1 rfl (lv_room (Nat.le_of_ble_eq_true rfl)) dX0_nearestOpenTaker_63 ⟨Nat.le_of_ble_eq_true rfl, Nat.le_of_ble_eq_true rfl⟩) hS (fun H locs hP hS => ?_)
      have hP : ws_P (zD Z) vwCl 211 (za Z) (tX Z) σ18 H := hP
      refine lv_istore_n (lv' := [(3, .int v17), (0, .ref (za Z 210)), (2, .int l2)]) hx hb dX0_nearestOpenTaker_66 rfl hl (by decide) rfl (fun ls hl => ?_)
      refine lv_iload_n hx hb dX0_nearestOpenTaker_67 rfl (lv_at hl 0 rfl) ?_
      refine lv_iconst (v := (-1)) hx hb dX0_nearestOpenTaker_68 (by decide) ?_
      refine lv_icmp_eq (tgt := 84) hx hb dX0_nearestOpenTaker_69 (by decide) (fun q20 => ?_) (fun q20 => ?_)
      · have h := if_p h q20
        refine lv_iload_n hx hb dX0_nearestOpenTaker_84 rfl (lv_at hl 0 rfl) ?_
        exact xr_iret hx hb hr hlocks hE hJ hK hP hS h dX0_nearestOpenTaker_85
      · have h := if_n h q20
        refine lv_aload_n hx hb dX0_nearestOpenTaker_72 rfl (lv_at hl 1 rfl) ?_
        refine wr_get (C := RX0) (T := TX0) (N := 11) hx hb hts (in_X0_nearestOpenTaker_X0) hown hK hP (k := 210) (by decide) ((tX_Carrier Z) _ _ _) rfl 1 (by decide) (hts (.fieldLink RX0 20 "TuneSearch$Carrier" "takers" "LTuneSearch$Load;") (by decide +kernel)) (fun _ h9 => h9) rfl dX0_nearestOpenTaker_73 ?_
        refine wr_get (C := RX3) (T := TX3) (N := 5) hx hb hts (in_X0_nearestOpenTaker_X3) hown hK hP (k := (208 + 1)) (by omega) ((tX_Load Z 1 (by decide)) _ _ _) rfl 2 (by decide) (hts (.fieldLink RX0 90 "TuneSearch$Load" "left" "[I") (by decide +kernel)) (fun _ h9 => h9) rfl dX0_nearestOpenTaker_76 ?_
        refine lv_iload_n hx hb dX0_nearestOpenTaker_79 rfl (lv_at hl 0 rfl) ?_
        obtain ⟨b21, h⟩ := gB_e h
        refine wr_iald hx hb hK hP (k := (32 + 1)) (by omega) 0 ((tX_ld_left Z 1 (by decide)) _ _ _) rfl b21 dX0_nearestOpenTaker_80 ?_
        refine lv_if_le (tgt := 86) hx hb dX0_nearestOpenTaker_81 (by decide) (fun q22 => ?_) (fun q22 => ?_)
        · have h := if_p h q22
          refine lv_aload_n hx hb dX0_nearestOpenTaker_86 rfl (lv_at hl 1 rfl) ?_
          refine wr_get (C := RX0) (T := TX0) (N := 11) hx hb hts (in_X0_nearestOpenTaker_X0) hown hK hP (k := 210) (by decide) ((tX_Carrier Z) _ _ _) rfl 10 (by decide) (hts (.fieldLink RX0 50 "TuneSearch$Carrier" "takerDone" "[Z") (by decide +kernel)) (fun _ h9 => h9) rfl dX0_nearestOpenTaker_87 ?_
          refine lv_iload_n hx hb dX0_nearestOpenTaker_90 rfl (lv_at hl 0 rfl) ?_
          refine lv_iconst (v := 1) hx hb dX0_nearestOpenTaker_91 (by decide) ?_
          obtain ⟨b23, h⟩ := gB_e h
          refine wr_zast hx hb hK hP hJ hS (k := 143) (by decide) 2 (tX_Z Z) rfl b23 rfl dX0_nearestOpenTaker_92 (fun H locs hP hS => ?_)
          obtain ⟨σ24, e25, h⟩ := lS_e h
          rw [← e25] at hP
          refine lv_aload_n hx hb dX0_nearestOpenTaker_93 rfl (lv_at hl 1 rfl) ?_
          refine lv_iload_n hx hb dX0_nearestOpenTaker_94 rfl (lv_at hl 0 rfl) ?_
          obtain ⟨v26, σ27, hm28, h⟩ := bi_e h
          refine xr_callv (res := (v26, σ27)) (va_runV (As := [.int v17]) (rest := []) ⟨hx, hb, hml, hown, hts⟩ (k_X0_reachGiversOf l Z   σ24 v17 hm28) (cwV 1 hts gX0_nearestOpenTaker_X0_reachGiversOf rfl rfl rfl (by decide +kernel) ⟨Nat.le_of_ble_eq_true rfl, Nat.le_of_ble_eq_true rfl⟩) ⟨wx_blind, wr_recv hK hP (k := 210) (by decide) ((tX_Carrier Z) _ _ _) rfl, fun U hU hW => ⟨rfl, wx_at hE hJ hP hK hS hU hW⟩⟩ rfl rfl hl.1 rfl (lv_room (Nat.le_of_ble_eq_true rfl)) dX0_nearestOpenTaker_95 ⟨Nat.le_of_ble_eq_true rfl, Nat.le_of_ble_eq_true rfl⟩) hS (fun H locs hP hS => ?_)
          have hP : ws_P (zD Z) vwCl 211 (za Z) (tX Z) σ27 H := hP
          obtain ⟨v29, e30, h⟩ := lS_e h
          refine lv_iinc (v := v29) (lv' := [(2, .int v29), (3, .int v17), (0, .ref (za Z 210))]) hx hb dX0_nearestOpenTaker_98 hl (k := 2) rfl (by rw [e30]; rfl) (by decide) rfl (fun ls hl => ?_)
          refine lv_goto (tgt := 51) hx hb dX0_nearestOpenTaker_101 (by decide) ?_
          exact hc51 σ27 v29 h H locs hP hS ls (lv_sub hl [2, 0] rfl)
        · have h := if_n h q22
          refine lv_iload_n hx hb dX0_nearestOpenTaker_84 rfl (lv_at hl 0 rfl) ?_
          exact xr_iret hx hb hr hlocks hE hJ hK hP hS h dX0_nearestOpenTaker_85
def m_X0_nearestOpenTaker_10_s    (c10 : SG → Int32 → Int32 → Option (Int32 × SG)) (σ : SG) (l1 : Int32) (l2 : Int32) : Option (Int32 × SG) :=
  if (σ.1 (208 + 1) 3) ≤ l2 then (bi (m_X0_reachGiver  σ l1 0 (-1)) (fun v5 σ6 => m_X0_nearestOpenTaker_51    FV σ6 0)) else (gB (inB l2 24) (lS (sI σ 37 l2.toNatClampNeg 2147483647) (fun σ9 => gB (inB l2 24) (lS (sI σ9 143 l2.toNatClampNeg 0) (fun σ12 => lS (l2 + 1) (fun v14 => c10 σ12 l1 v14))))))
def m_X0_nearestOpenTaker_10    : Nat → SG → Int32 → Int32 → Option (Int32 × SG)
  | 0, _, _, _ => none
  | n + 1, σ, l1, l2 => m_X0_nearestOpenTaker_10_s    (m_X0_nearestOpenTaker_10    n) σ l1 l2
set_option maxHeartbeats 4000000 in
set_option maxRecDepth 100000 in
theorem kb_X0_nearestOpenTaker_10 {p : Program} {l : Launch} {e : Env} {s : State} {m : MethodId} {args : Array Value} {below : List Frame} {meth : Method} {c : Code} {E : EF} (Z : ZT)    (C : cy p s m args meth c cX0_nearestOpenTaker (some .int) 4 RX0 wsX0_nearestOpenTaker E (zD Z) vwCl 211 (za Z) (tysX Z)) {res : Int32 × SG}   : ∀ (n : Nat) (σ : SG) (l1 : Int32) (l2 : Int32) , m_X0_nearestOpenTaker_10    n σ l1 l2 = some res → ∀ (H : Heap) (locs : List Loc), ws_P (zD Z) vwCl 211 (za Z) (tX Z) σ H → va_S (ws_A 211 (za Z)) s.heap H locs → ∀ (ls : Array Slot), lv_has ls 4 [(0, .ref (za Z 210)), (1, .int l1), (2, .int l2)] → W p l e rm_X0_nearestOpenTaker s m args below meth c H locs 0 0 (MQ below (xQi E (zD Z) vwCl 211 (za Z) (tX Z) (tysX Z) res) args s 0 0 (ws_A 211 (za Z))) (F0 m 10 ls []) := by
  have C0 := C
  obtain ⟨hx, hb, hr, hlocks, hml, hown, hts, hE, hJ, hK⟩ := C0
  intro n
  induction n with
  | zero =>
    intro σ l1 l2  h
    cases h
  | succ n ih =>
    intro σ l1 l2  h H locs hP hS ls hl
    have hc10 : ∀ (σ : SG) (l1 : Int32) (l2 : Int32) , m_X0_nearestOpenTaker_10    n σ l1 l2 = some res → ∀ (H : Heap) (locs : List Loc), ws_P (zD Z) vwCl 211 (za Z) (tX Z) σ H → va_S (ws_A 211 (za Z)) s.heap H locs → ∀ (ls : Array Slot), lv_has ls 4 [(0, .ref (za Z 210)), (1, .int l1), (2, .int l2)] → W p l e rm_X0_nearestOpenTaker s m args below meth c H locs 0 0 (MQ below (xQi E (zD Z) vwCl 211 (za Z) (tX Z) (tysX Z) res) args s 0 0 (ws_A 211 (za Z))) (F0 m 10 ls []) := ih
    have h : m_X0_nearestOpenTaker_10_s    (m_X0_nearestOpenTaker_10    n) σ l1 l2 = some res := h
    unfold m_X0_nearestOpenTaker_10_s at h
    refine lv_iload_n hx hb dX0_nearestOpenTaker_10 rfl (lv_at hl 2 rfl) ?_
    refine lv_aload_n hx hb dX0_nearestOpenTaker_11 rfl (lv_at hl 0 rfl) ?_
    refine wr_get (C := RX0) (T := TX0) (N := 11) hx hb hts (in_X0_nearestOpenTaker_X0) hown hK hP (k := 210) (by decide) ((tX_Carrier Z) _ _ _) rfl 1 (by decide) (hts (.fieldLink RX0 20 "TuneSearch$Carrier" "takers" "LTuneSearch$Load;") (by decide +kernel)) (fun _ h9 => h9) rfl dX0_nearestOpenTaker_12 ?_
    refine wr_get (C := RX3) (T := TX3) (N := 5) hx hb hts (in_X0_nearestOpenTaker_X3) hown hK hP (k := (208 + 1)) (by omega) ((tX_Load Z 1 (by decide)) _ _ _) rfl 3 (by decide) (hts (.fieldLink RX0 66 "TuneSearch$Load" "count" "I") (by decide +kernel)) (fun _ h9 => h9) rfl dX0_nearestOpenTaker_15 ?_
    refine lv_icmp_ge (tgt := 42) hx hb dX0_nearestOpenTaker_18 (by decide) (fun q4 => ?_) (fun q4 => ?_)
    · have h := if_p h q4
      refine lv_aload_n hx hb dX0_nearestOpenTaker_42 rfl (lv_at hl 0 rfl) ?_
      refine lv_iload_n hx hb dX0_nearestOpenTaker_43 rfl (lv_at hl 1 rfl) ?_
      refine lv_iconst (v := 0) hx hb dX0_nearestOpenTaker_44 (by decide) ?_
      refine lv_iconst (v := (-1)) hx hb dX0_nearestOpenTaker_45 (by decide) ?_
      obtain ⟨v5, σ6, hm7, h⟩ := bi_e h
      refine xr_callv (res := (v5, σ6)) (va_runV (As := [.int l1, .int 0, .int (-1)]) (rest := []) ⟨hx, hb, hml, hown, hts⟩ (k_X0_reachGiver l Z   σ l1 0 (-1) hm7) (cwV 3 hts gX0_nearestOpenTaker_X0_reachGiver rfl rfl rfl (by decide +kernel) ⟨Nat.le_of_ble_eq_true rfl, Nat.le_of_ble_eq_true rfl⟩) ⟨wx_blind, wr_recv hK hP (k := 210) (by decide) ((tX_Carrier Z) _ _ _) rfl, fun U hU hW => ⟨rfl, wx_at hE hJ hP hK hS hU hW⟩⟩ rfl rfl hl.1 rfl (lv_room (Nat.le_of_ble_eq_true rfl)) dX0_nearestOpenTaker_46 ⟨Nat.le_of_ble_eq_true rfl, Nat.le_of_ble_eq_true rfl⟩) hS (fun H locs hP hS => ?_)
      have hP : ws_P (zD Z) vwCl 211 (za Z) (tX Z) σ6 H := hP
      refine lv_iconst (v := 0) hx hb dX0_nearestOpenTaker_49 (by decide) ?_
      refine lv_istore_n (lv' := [(2, .int 0), (0, .ref (za Z 210)), (1, .int l1)]) hx hb dX0_nearestOpenTaker_50 rfl hl (by decide) rfl (fun ls hl => ?_)
      exact kb_X0_nearestOpenTaker_51 Z    C   FV σ6 0 h H locs hP hS ls (lv_sub hl [1, 0] rfl)
    · have h := if_n h q4
      refine lv_aload_n hx hb dX0_nearestOpenTaker_21 rfl (lv_at hl 0 rfl) ?_
      refine wr_get (C := RX0) (T := TX0) (N := 11) hx hb hts (in_X0_nearestOpenTaker_X0) hown hK hP (k := 210) (by decide) ((tX_Carrier Z) _ _ _) rfl 7 (by decide) (hts (.fieldLink RX0 41 "TuneSearch$Carrier" "takerReach" "[I") (by decide +kernel)) (fun _ h9 => h9) rfl dX0_nearestOpenTaker_22 ?_
      refine lv_iload_n hx hb dX0_nearestOpenTaker_25 rfl (lv_at hl 2 rfl) ?_
      refine lv_ldc (v := 2147483647) hx hb hown (hts (.constant RX0 107 2147483647) (by decide +kernel)) dX0_nearestOpenTaker_26 ?_
      obtain ⟨b8, h⟩ := gB_e h
      refine wr_iast hx hb hK hP hJ hS (k := 37) (by decide) 0 (tX_I Z 37 (by decide)) rfl b8 dX0_nearestOpenTaker_28 (fun H locs hP hS => ?_)
      obtain ⟨σ9, e10, h⟩ := lS_e h
      rw [← e10] at hP
      refine lv_aload_n hx hb dX0_nearestOpenTaker_29 rfl (lv_at hl 0 rfl) ?_
      refine wr_get (C := RX0) (T := TX0) (N := 11) hx hb hts (in_X0_nearestOpenTaker_X0) hown hK hP (k := 210) (by decide) ((tX_Carrier Z) _ _ _) rfl 10 (by decide) (hts (.fieldLink RX0 50 "TuneSearch$Carrier" "takerDone" "[Z") (by decide +kernel)) (fun _ h9 => h9) rfl dX0_nearestOpenTaker_30 ?_
      refine lv_iload_n hx hb dX0_nearestOpenTaker_33 rfl (lv_at hl 2 rfl) ?_
      refine lv_iconst (v := 0) hx hb dX0_nearestOpenTaker_34 (by decide) ?_
      obtain ⟨b11, h⟩ := gB_e h
      refine wr_zast hx hb hK hP hJ hS (k := 143) (by decide) 2 (tX_Z Z) rfl b11 rfl dX0_nearestOpenTaker_35 (fun H locs hP hS => ?_)
      obtain ⟨σ12, e13, h⟩ := lS_e h
      rw [← e13] at hP
      obtain ⟨v14, e15, h⟩ := lS_e h
      refine lv_iinc (v := v14) (lv' := [(2, .int v14), (0, .ref (za Z 210)), (1, .int l1)]) hx hb dX0_nearestOpenTaker_36 hl (k := 2) rfl (by rw [e15]; rfl) (by decide) rfl (fun ls hl => ?_)
      refine lv_goto (tgt := 10) hx hb dX0_nearestOpenTaker_39 (by decide) ?_
      exact hc10 σ12 l1 v14 h H locs hP hS ls (lv_sub hl [1, 2, 0] rfl)
def m_X0_nearestOpenTaker_0    (σ : SG) (p0 : Int32) : Option (Int32 × SG) :=
  bi (m_J7_fill_53178 36 σ (-1)) (fun v1 σ2 => m_X0_nearestOpenTaker_10    FV σ2 p0 0)
set_option maxHeartbeats 4000000 in
set_option maxRecDepth 100000 in
theorem kb_X0_nearestOpenTaker_0 {p : Program} {l : Launch} {e : Env} {s : State} {m : MethodId} {args : Array Value} {below : List Frame} {meth : Method} {c : Code} {E : EF} (Z : ZT)    (C : cy p s m args meth c cX0_nearestOpenTaker (some .int) 4 RX0 wsX0_nearestOpenTaker E (zD Z) vwCl 211 (za Z) (tysX Z)) {res : Int32 × SG}   : ∀ (σ : SG) (p0 : Int32) , m_X0_nearestOpenTaker_0    σ p0 = some res → ∀ (H : Heap) (locs : List Loc), ws_P (zD Z) vwCl 211 (za Z) (tX Z) σ H → va_S (ws_A 211 (za Z)) s.heap H locs → ∀ (ls : Array Slot), lv_has ls 4 [(0, .ref (za Z 210)), (1, .int p0)] → W p l e rm_X0_nearestOpenTaker s m args below meth c H locs 0 0 (MQ below (xQi E (zD Z) vwCl 211 (za Z) (tX Z) (tysX Z) res) args s 0 0 (ws_A 211 (za Z))) (F0 m 0 ls []) := by
  have C0 := C
  obtain ⟨hx, hb, hr, hlocks, hml, hown, hts, hE, hJ, hK⟩ := C0
  intro σ p0  h H locs hP hS ls hl
  unfold m_X0_nearestOpenTaker_0 at h
  refine lv_aload_n hx hb dX0_nearestOpenTaker_0 rfl (lv_at hl 0 rfl) ?_
  refine wr_get (C := RX0) (T := TX0) (N := 11) hx hb hts (in_X0_nearestOpenTaker_X0) hown hK hP (k := 210) (by decide) ((tX_Carrier Z) _ _ _) rfl 6 (by decide) (hts (.fieldLink RX0 38 "TuneSearch$Carrier" "giverReach" "[I") (by decide +kernel)) (fun _ h9 => h9) rfl dX0_nearestOpenTaker_1 ?_
  refine lv_iconst (v := (-1)) hx hb dX0_nearestOpenTaker_4 (by decide) ?_
  obtain ⟨v1, σ2, hm3, h⟩ := bi_e h
  refine xr_callv (res := (v1, σ2)) (va_runS (As := [.ref (za Z 36), .int (-1)]) (rest := []) ⟨hx, hb, hml, hown, hts⟩ (k_J7_fill_53178 l Z 36 (by decide) σ (-1) hm3) (va_cwS 2 hts gX0_nearestOpenTaker_J7_fill_53178 rfl rfl rfl (by decide +kernel) ⟨Nat.le_of_ble_eq_true rfl, Nat.le_of_ble_eq_true rfl⟩) ⟨wx_blind, fun U hU hW => ⟨rfl, wx_at hE hJ hP hK hS hU hW⟩⟩ rfl rfl hl.1 rfl (lv_room (Nat.le_of_ble_eq_true rfl)) dX0_nearestOpenTaker_5 ⟨Nat.le_of_ble_eq_true rfl, Nat.le_of_ble_eq_true rfl⟩) hS (fun H locs hP hS => ?_)
  have hP : ws_P (zD Z) vwCl 211 (za Z) (tX Z) σ2 H := hP
  refine lv_iconst (v := 0) hx hb dX0_nearestOpenTaker_8 (by decide) ?_
  refine lv_istore_n (lv' := [(2, .int 0), (0, .ref (za Z 210)), (1, .int p0)]) hx hb dX0_nearestOpenTaker_9 rfl hl (by decide) rfl (fun ls hl => ?_)
  exact kb_X0_nearestOpenTaker_10 Z    C   FV σ2 p0 0 h H locs hP hS ls (lv_sub hl [1, 2, 0] rfl)
def m_X0_nearestOpenTaker   (σ : SG) (p0 : Int32) : Option (Int32 × SG) := m_X0_nearestOpenTaker_0   σ p0
set_option maxHeartbeats 4000000 in
set_option maxRecDepth 100000 in
theorem k_X0_nearestOpenTaker (l : Launch) {E : EF} (Z : ZT)    (σ : SG) (p0 : Int32) {res : Int32 × SG} (h : m_X0_nearestOpenTaker   σ p0 = some res) : Met l yX0_nearestOpenTaker wsX0_nearestOpenTaker rm_X0_nearestOpenTaker (va_Pc [.ref (za Z 210), .int p0] (wx E (zD Z) vwCl 211 (za Z) (tX Z) (tysX Z) σ)) (xQi E (zD Z) vwCl 211 (za Z) (tX Z) (tysX Z) res) 0 0 (ws_A 211 (za Z)) := by
  refine Met.ofW (cc := cX0_nearestOpenTaker) (maxL := 4) (ret := (some .int)) (by decide) rfl ?_
  intro p e s m args below meth c s₁ B hml hv
  obtain ⟨rfl, hE, hJ, hP, hK⟩ := hv
  have hl := lv_entry ([.ref (za Z 210), .int p0]) (n := 4) (Nat.le_of_ble_eq_true rfl)
  rw [lg_entry_eq]
  generalize (lg_sl ([.ref (za Z 210), .int p0]) ++ List.replicate (4 - (lg_sl ([.ref (za Z 210), .int p0])).length) Slot.unset).toArray = ls at hl ⊢
  exact kb_X0_nearestOpenTaker_0 Z    ⟨B.exec, B.bytes, B.returns, B.notSynchronized, hml, findClass_of_methodNamed B.named, atoms_spec (ws := wsX0_nearestOpenTaker) B.pre, hE, hJ, hK⟩ σ p0 h s.heap [] hP va_S.rf ls hl
/-! TuneSearch$Carrier.changeRates(I)V -/
abbrev rm_X0_changeRates : Room := { frames := 0, cells := 0, slots := 0, locals := 0 }
theorem in_X0_changeRates_X0 : ∀ w ∈ wsX00, w ∈ wsX0_changeRates := by decide +kernel
theorem in_X0_changeRates_X3 : ∀ w ∈ wsX30, w ∈ wsX0_changeRates := by decide +kernel
def m_X0_changeRates_85   (c48 : SG → Int32 → Int32 → Option (Unit × SG)) (σ : SG) (l1 : Int32) (l2 : Int32) : Option (Unit × SG) :=
  lS (l2 + 1) (fun v19 => c48 σ l1 v19)
set_option maxHeartbeats 4000000 in
set_option maxRecDepth 100000 in
theorem kb_X0_changeRates_85 {p : Program} {l : Launch} {e : Env} {s : State} {m : MethodId} {args : Array Value} {below : List Frame} {meth : Method} {c : Code} {E : EF} (Z : ZT)    (C : cy p s m args meth c cX0_changeRates none 3 RX0 wsX0_changeRates E (zD Z) vwCl 211 (za Z) (tysX Z)) {res : Unit × SG} {c48 : SG → Int32 → Int32 → Option (Unit × SG)} (hc48 : ∀ (σ : SG) (l1 : Int32) (l2 : Int32) , c48 σ l1 l2 = some res → ∀ (H : Heap) (locs : List Loc), ws_P (zD Z) vwCl 211 (za Z) (tX Z) σ H → va_S (ws_A 211 (za Z)) s.heap H locs → ∀ (ls : Array Slot), lv_has ls 3 [(0, .ref (za Z 210)), (1, .int l1), (2, .int l2)] → W p l e rm_X0_changeRates s m args below meth c H locs 0 0 (MQ below (xQv E (zD Z) vwCl 211 (za Z) (tX Z) (tysX Z) res) args s 0 0 (ws_A 211 (za Z))) (F0 m 48 ls [])) : ∀ (σ : SG) (l1 : Int32) (l2 : Int32) , m_X0_changeRates_85   c48 σ l1 l2 = some res → ∀ (H : Heap) (locs : List Loc), ws_P (zD Z) vwCl 211 (za Z) (tX Z) σ H → va_S (ws_A 211 (za Z)) s.heap H locs → ∀ (ls : Array Slot), lv_has ls 3 [(0, .ref (za Z 210)), (1, .int l1), (2, .int l2)] → W p l e rm_X0_changeRates s m args below meth c H locs 0 0 (MQ below (xQv E (zD Z) vwCl 211 (za Z) (tX Z) (tysX Z) res) args s 0 0 (ws_A 211 (za Z))) (F0 m 85 ls []) := by
  have C0 := C
  obtain ⟨hx, hb, hr, hlocks, hml, hown, hts, hE, hJ, hK⟩ := C0
  intro σ l1 l2  h H locs hP hS ls hl
  unfold m_X0_changeRates_85 at h
  obtain ⟨v19, e20, h⟩ := lS_e h
  refine lv_iinc (v := v19) (lv' := [(2, .int v19), (0, .ref (za Z 210)), (1, .int l1)]) hx hb dX0_changeRates_85 hl (k := 2) rfl (by rw [e20]; rfl) (by decide) rfl (fun ls hl => ?_)
  refine lv_goto (tgt := 48) hx hb dX0_changeRates_88 (by decide) ?_
  exact hc48 σ l1 v19 h H locs hP hS ls (lv_sub hl [1, 2, 0] rfl)
def m_X0_changeRates_48_s    (c48 : SG → Int32 → Int32 → Option (Unit × SG)) (σ : SG) (l1 : Int32) (l2 : Int32) : Option (Unit × SG) :=
  if (σ.1 (208 + 1) 3) ≤ l2 then (some ((), σ)) else (gB (inB l2 24) (if (σ.1 143 l2.toNatClampNeg) = 0 then (m_X0_changeRates_85   c48 σ l1 l2) else (gB (inB l2 24) (gB (inB l2 24) (gB (inB l2 24) (lS (sI σ 35 l2.toNatClampNeg ((σ.1 35 l2.toNatClampNeg) - (l1 - (σ.1 37 l2.toNatClampNeg)))) (fun σ15 => m_X0_changeRates_85   c48 σ15 l1 l2)))))))
def m_X0_changeRates_48    : Nat → SG → Int32 → Int32 → Option (Unit × SG)
  | 0, _, _, _ => none
  | n + 1, σ, l1, l2 => m_X0_changeRates_48_s    (m_X0_changeRates_48    n) σ l1 l2
set_option maxHeartbeats 4000000 in
set_option maxRecDepth 100000 in
theorem kb_X0_changeRates_48 {p : Program} {l : Launch} {e : Env} {s : State} {m : MethodId} {args : Array Value} {below : List Frame} {meth : Method} {c : Code} {E : EF} (Z : ZT)    (C : cy p s m args meth c cX0_changeRates none 3 RX0 wsX0_changeRates E (zD Z) vwCl 211 (za Z) (tysX Z)) {res : Unit × SG}   : ∀ (n : Nat) (σ : SG) (l1 : Int32) (l2 : Int32) , m_X0_changeRates_48    n σ l1 l2 = some res → ∀ (H : Heap) (locs : List Loc), ws_P (zD Z) vwCl 211 (za Z) (tX Z) σ H → va_S (ws_A 211 (za Z)) s.heap H locs → ∀ (ls : Array Slot), lv_has ls 3 [(0, .ref (za Z 210)), (1, .int l1), (2, .int l2)] → W p l e rm_X0_changeRates s m args below meth c H locs 0 0 (MQ below (xQv E (zD Z) vwCl 211 (za Z) (tX Z) (tysX Z) res) args s 0 0 (ws_A 211 (za Z))) (F0 m 48 ls []) := by
  have C0 := C
  obtain ⟨hx, hb, hr, hlocks, hml, hown, hts, hE, hJ, hK⟩ := C0
  intro n
  induction n with
  | zero =>
    intro σ l1 l2  h
    cases h
  | succ n ih =>
    intro σ l1 l2  h H locs hP hS ls hl
    have hc48 : ∀ (σ : SG) (l1 : Int32) (l2 : Int32) , m_X0_changeRates_48    n σ l1 l2 = some res → ∀ (H : Heap) (locs : List Loc), ws_P (zD Z) vwCl 211 (za Z) (tX Z) σ H → va_S (ws_A 211 (za Z)) s.heap H locs → ∀ (ls : Array Slot), lv_has ls 3 [(0, .ref (za Z 210)), (1, .int l1), (2, .int l2)] → W p l e rm_X0_changeRates s m args below meth c H locs 0 0 (MQ below (xQv E (zD Z) vwCl 211 (za Z) (tX Z) (tysX Z) res) args s 0 0 (ws_A 211 (za Z))) (F0 m 48 ls []) := ih
    have h : m_X0_changeRates_48_s    (m_X0_changeRates_48    n) σ l1 l2 = some res := h
    unfold m_X0_changeRates_48_s at h
    refine lv_iload_n hx hb dX0_changeRates_48 rfl (lv_at hl 2 rfl) ?_
    refine lv_aload_n hx hb dX0_changeRates_49 rfl (lv_at hl 0 rfl) ?_
    refine wr_get (C := RX0) (T := TX0) (N := 11) hx hb hts (in_X0_changeRates_X0) hown hK hP (k := 210) (by decide) ((tX_Carrier Z) _ _ _) rfl 1 (by decide) (hts (.fieldLink RX0 20 "TuneSearch$Carrier" "takers" "LTuneSearch$Load;") (by decide +kernel)) (fun _ h9 => h9) rfl dX0_changeRates_50 ?_
    refine wr_get (C := RX3) (T := TX3) (N := 5) hx hb hts (in_X0_changeRates_X3) hown hK hP (k := (208 + 1)) (by omega) ((tX_Load Z 1 (by decide)) _ _ _) rfl 3 (by decide) (hts (.fieldLink RX0 66 "TuneSearch$Load" "count" "I") (by decide +kernel)) (fun _ h9 => h9) rfl dX0_changeRates_53 ?_
    refine lv_icmp_ge (tgt := 91) hx hb dX0_changeRates_56 (by decide) (fun q9 => ?_) (fun q9 => ?_)
    · have h := if_p h q9
      exact xr_vret hx hb hr hlocks hE hJ hK hP hS h dX0_changeRates_91
    · have h := if_n h q9
      refine lv_aload_n hx hb dX0_changeRates_59 rfl (lv_at hl 0 rfl) ?_
      refine wr_get (C := RX0) (T := TX0) (N := 11) hx hb hts (in_X0_changeRates_X0) hown hK hP (k := 210) (by decide) ((tX_Carrier Z) _ _ _) rfl 10 (by decide) (hts (.fieldLink RX0 50 "TuneSearch$Carrier" "takerDone" "[Z") (by decide +kernel)) (fun _ h9 => h9) rfl dX0_changeRates_60 ?_
      refine lv_iload_n hx hb dX0_changeRates_63 rfl (lv_at hl 2 rfl) ?_
      obtain ⟨b10, h⟩ := gB_e h
      refine wr_zald hx hb hK hP (k := 143) (by decide) 2 ((tX_Z Z) _ _ _) rfl b10 dX0_changeRates_64 ?_
      refine lv_if_eq (tgt := 85) hx hb dX0_changeRates_65 (by decide) (fun q11 => ?_) (fun q11 => ?_)
      · have h := if_p h q11
        exact kb_X0_changeRates_85 Z    C  hc48 σ l1 l2 h H locs hP hS ls (lv_sub hl [0, 1, 2] rfl)
      · have h := if_n h q11
        refine lv_aload_n hx hb dX0_changeRates_68 rfl (lv_at hl 0 rfl) ?_
        refine wr_get (C := RX0) (T := TX0) (N := 11) hx hb hts (in_X0_changeRates_X0) hown hK hP (k := 210) (by decide) ((tX_Carrier Z) _ _ _) rfl 5 (by decide) (hts (.fieldLink RX0 35 "TuneSearch$Carrier" "takerRates" "[I") (by decide +kernel)) (fun _ h9 => h9) rfl dX0_changeRates_69 ?_
        refine lv_iload_n hx hb dX0_changeRates_72 rfl (lv_at hl 2 rfl) ?_
        refine lv_dup2_11 hx hb dX0_changeRates_73 rfl rfl ?_
        obtain ⟨b12, h⟩ := gB_e h
        refine wr_iald hx hb hK hP (k := 35) (by decide) 0 ((tX_I Z 35 (by decide)) _ _ _) rfl b12 dX0_changeRates_74 ?_
        refine lv_iload_n hx hb dX0_changeRates_75 rfl (lv_at hl 1 rfl) ?_
        refine lv_aload_n hx hb dX0_changeRates_76 rfl (lv_at hl 0 rfl) ?_
        refine wr_get (C := RX0) (T := TX0) (N := 11) hx hb hts (in_X0_changeRates_X0) hown hK hP (k := 210) (by decide) ((tX_Carrier Z) _ _ _) rfl 7 (by decide) (hts (.fieldLink RX0 41 "TuneSearch$Carrier" "takerReach" "[I") (by decide +kernel)) (fun _ h9 => h9) rfl dX0_changeRates_77 ?_
        refine lv_iload_n hx hb dX0_changeRates_80 rfl (lv_at hl 2 rfl) ?_
        obtain ⟨b13, h⟩ := gB_e h
        refine wr_iald hx hb hK hP (k := 37) (by decide) 0 ((tX_I Z 37 (by decide)) _ _ _) rfl b13 dX0_changeRates_81 ?_
        refine lv_isub hx hb dX0_changeRates_82 ?_
        refine lv_isub hx hb dX0_changeRates_83 ?_
        obtain ⟨b14, h⟩ := gB_e h
        refine wr_iast hx hb hK hP hJ hS (k := 35) (by decide) 0 (tX_I Z 35 (by decide)) rfl b14 dX0_changeRates_84 (fun H locs hP hS => ?_)
        obtain ⟨σ15, e16, h⟩ := lS_e h
        rw [← e16] at hP
        exact kb_X0_changeRates_85 Z    C  hc48 σ15 l1 l2 h H locs hP hS ls (lv_sub hl [0, 1, 2] rfl)
def m_X0_changeRates_40   (c2 : SG → Int32 → Int32 → Option (Unit × SG)) (σ : SG) (l1 : Int32) (l2 : Int32) : Option (Unit × SG) :=
  lS (l2 + 1) (fun v17 => c2 σ l1 v17)
set_option maxHeartbeats 4000000 in
set_option maxRecDepth 100000 in
theorem kb_X0_changeRates_40 {p : Program} {l : Launch} {e : Env} {s : State} {m : MethodId} {args : Array Value} {below : List Frame} {meth : Method} {c : Code} {E : EF} (Z : ZT)    (C : cy p s m args meth c cX0_changeRates none 3 RX0 wsX0_changeRates E (zD Z) vwCl 211 (za Z) (tysX Z)) {res : Unit × SG} {c2 : SG → Int32 → Int32 → Option (Unit × SG)} (hc2 : ∀ (σ : SG) (l1 : Int32) (l2 : Int32) , c2 σ l1 l2 = some res → ∀ (H : Heap) (locs : List Loc), ws_P (zD Z) vwCl 211 (za Z) (tX Z) σ H → va_S (ws_A 211 (za Z)) s.heap H locs → ∀ (ls : Array Slot), lv_has ls 3 [(0, .ref (za Z 210)), (1, .int l1), (2, .int l2)] → W p l e rm_X0_changeRates s m args below meth c H locs 0 0 (MQ below (xQv E (zD Z) vwCl 211 (za Z) (tX Z) (tysX Z) res) args s 0 0 (ws_A 211 (za Z))) (F0 m 2 ls [])) : ∀ (σ : SG) (l1 : Int32) (l2 : Int32) , m_X0_changeRates_40   c2 σ l1 l2 = some res → ∀ (H : Heap) (locs : List Loc), ws_P (zD Z) vwCl 211 (za Z) (tX Z) σ H → va_S (ws_A 211 (za Z)) s.heap H locs → ∀ (ls : Array Slot), lv_has ls 3 [(0, .ref (za Z 210)), (1, .int l1), (2, .int l2)] → W p l e rm_X0_changeRates s m args below meth c H locs 0 0 (MQ below (xQv E (zD Z) vwCl 211 (za Z) (tX Z) (tysX Z) res) args s 0 0 (ws_A 211 (za Z))) (F0 m 40 ls []) := by
  have C0 := C
  obtain ⟨hx, hb, hr, hlocks, hml, hown, hts, hE, hJ, hK⟩ := C0
  intro σ l1 l2  h H locs hP hS ls hl
  unfold m_X0_changeRates_40 at h
  obtain ⟨v17, e18, h⟩ := lS_e h
  refine lv_iinc (v := v17) (lv' := [(2, .int v17), (0, .ref (za Z 210)), (1, .int l1)]) hx hb dX0_changeRates_40 hl (k := 2) rfl (by rw [e18]; rfl) (by decide) rfl (fun ls hl => ?_)
  refine lv_goto (tgt := 2) hx hb dX0_changeRates_43 (by decide) ?_
  exact hc2 σ l1 v17 h H locs hP hS ls (lv_sub hl [1, 2, 0] rfl)
def m_X0_changeRates_2_s    (c2 : SG → Int32 → Int32 → Option (Unit × SG)) (σ : SG) (l1 : Int32) (l2 : Int32) : Option (Unit × SG) :=
  if (σ.1 (208 + 0) 3) ≤ l2 then (m_X0_changeRates_48    FV σ l1 0) else (gB (inB l2 24) (if (σ.1 36 l2.toNatClampNeg) = (-1) then (m_X0_changeRates_40   c2 σ l1 l2) else (gB (inB l2 24) (gB (inB l2 24) (gB (inB l2 24) (lS (sI σ 34 l2.toNatClampNeg ((σ.1 34 l2.toNatClampNeg) + (l1 - (σ.1 36 l2.toNatClampNeg)))) (fun σ7 => m_X0_changeRates_40   c2 σ7 l1 l2)))))))
def m_X0_changeRates_2    : Nat → SG → Int32 → Int32 → Option (Unit × SG)
  | 0, _, _, _ => none
  | n + 1, σ, l1, l2 => m_X0_changeRates_2_s    (m_X0_changeRates_2    n) σ l1 l2
set_option maxHeartbeats 4000000 in
set_option maxRecDepth 100000 in
theorem kb_X0_changeRates_2 {p : Program} {l : Launch} {e : Env} {s : State} {m : MethodId} {args : Array Value} {below : List Frame} {meth : Method} {c : Code} {E : EF} (Z : ZT)    (C : cy p s m args meth c cX0_changeRates none 3 RX0 wsX0_changeRates E (zD Z) vwCl 211 (za Z) (tysX Z)) {res : Unit × SG}   : ∀ (n : Nat) (σ : SG) (l1 : Int32) (l2 : Int32) , m_X0_changeRates_2    n σ l1 l2 = some res → ∀ (H : Heap) (locs : List Loc), ws_P (zD Z) vwCl 211 (za Z) (tX Z) σ H → va_S (ws_A 211 (za Z)) s.heap H locs → ∀ (ls : Array Slot), lv_has ls 3 [(0, .ref (za Z 210)), (1, .int l1), (2, .int l2)] → W p l e rm_X0_changeRates s m args below meth c H locs 0 0 (MQ below (xQv E (zD Z) vwCl 211 (za Z) (tX Z) (tysX Z) res) args s 0 0 (ws_A 211 (za Z))) (F0 m 2 ls []) := by
  have C0 := C
  obtain ⟨hx, hb, hr, hlocks, hml, hown, hts, hE, hJ, hK⟩ := C0
  intro n
  induction n with
  | zero =>
    intro σ l1 l2  h
    cases h
  | succ n ih =>
    intro σ l1 l2  h H locs hP hS ls hl
    have hc2 : ∀ (σ : SG) (l1 : Int32) (l2 : Int32) , m_X0_changeRates_2    n σ l1 l2 = some res → ∀ (H : Heap) (locs : List Loc), ws_P (zD Z) vwCl 211 (za Z) (tX Z) σ H → va_S (ws_A 211 (za Z)) s.heap H locs → ∀ (ls : Array Slot), lv_has ls 3 [(0, .ref (za Z 210)), (1, .int l1), (2, .int l2)] → W p l e rm_X0_changeRates s m args below meth c H locs 0 0 (MQ below (xQv E (zD Z) vwCl 211 (za Z) (tX Z) (tysX Z) res) args s 0 0 (ws_A 211 (za Z))) (F0 m 2 ls []) := ih
    have h : m_X0_changeRates_2_s    (m_X0_changeRates_2    n) σ l1 l2 = some res := h
    unfold m_X0_changeRates_2_s at h
    refine lv_iload_n hx hb dX0_changeRates_2 rfl (lv_at hl 2 rfl) ?_
    refine lv_aload_n hx hb dX0_changeRates_3 rfl (lv_at hl 0 rfl) ?_
    refine wr_get (C := RX0) (T := TX0) (N := 11) hx hb hts (in_X0_changeRates_X0) hown hK hP (k := 210) (by decide) ((tX_Carrier Z) _ _ _) rfl 0 (by decide) (hts (.fieldLink RX0 14 "TuneSearch$Carrier" "givers" "LTuneSearch$Load;") (by decide +kernel)) (fun _ h9 => h9) rfl dX0_changeRates_4 ?_
    refine wr_get (C := RX3) (T := TX3) (N := 5) hx hb hts (in_X0_changeRates_X3) hown hK hP (k := (208 + 0)) (by omega) ((tX_Load Z 0 (by decide)) _ _ _) rfl 3 (by decide) (hts (.fieldLink RX0 66 "TuneSearch$Load" "count" "I") (by decide +kernel)) (fun _ h9 => h9) rfl dX0_changeRates_7 ?_
    refine lv_icmp_ge (tgt := 46) hx hb dX0_changeRates_10 (by decide) (fun q1 => ?_) (fun q1 => ?_)
    · have h := if_p h q1
      refine lv_iconst (v := 0) hx hb dX0_changeRates_46 (by decide) ?_
      refine lv_istore_n (lv' := [(2, .int 0), (0, .ref (za Z 210)), (1, .int l1)]) hx hb dX0_changeRates_47 rfl hl (by decide) rfl (fun ls hl => ?_)
      exact kb_X0_changeRates_48 Z    C   FV σ l1 0 h H locs hP hS ls (lv_sub hl [1, 2, 0] rfl)
    · have h := if_n h q1
      refine lv_aload_n hx hb dX0_changeRates_13 rfl (lv_at hl 0 rfl) ?_
      refine wr_get (C := RX0) (T := TX0) (N := 11) hx hb hts (in_X0_changeRates_X0) hown hK hP (k := 210) (by decide) ((tX_Carrier Z) _ _ _) rfl 6 (by decide) (hts (.fieldLink RX0 38 "TuneSearch$Carrier" "giverReach" "[I") (by decide +kernel)) (fun _ h9 => h9) rfl dX0_changeRates_14 ?_
      refine lv_iload_n hx hb dX0_changeRates_17 rfl (lv_at hl 2 rfl) ?_
      obtain ⟨b2, h⟩ := gB_e h
      refine wr_iald hx hb hK hP (k := 36) (by decide) 0 ((tX_I Z 36 (by decide)) _ _ _) rfl b2 dX0_changeRates_18 ?_
      refine lv_iconst (v := (-1)) hx hb dX0_changeRates_19 (by decide) ?_
      refine lv_icmp_eq (tgt := 40) hx hb dX0_changeRates_20 (by decide) (fun q3 => ?_) (fun q3 => ?_)
      · have h := if_p h q3
        exact kb_X0_changeRates_40 Z    C  hc2 σ l1 l2 h H locs hP hS ls (lv_sub hl [0, 1, 2] rfl)
      · have h := if_n h q3
        refine lv_aload_n hx hb dX0_changeRates_23 rfl (lv_at hl 0 rfl) ?_
        refine wr_get (C := RX0) (T := TX0) (N := 11) hx hb hts (in_X0_changeRates_X0) hown hK hP (k := 210) (by decide) ((tX_Carrier Z) _ _ _) rfl 4 (by decide) (hts (.fieldLink RX0 31 "TuneSearch$Carrier" "giverRates" "[I") (by decide +kernel)) (fun _ h9 => h9) rfl dX0_changeRates_24 ?_
        refine lv_iload_n hx hb dX0_changeRates_27 rfl (lv_at hl 2 rfl) ?_
        refine lv_dup2_11 hx hb dX0_changeRates_28 rfl rfl ?_
        obtain ⟨b4, h⟩ := gB_e h
        refine wr_iald hx hb hK hP (k := 34) (by decide) 0 ((tX_I Z 34 (by decide)) _ _ _) rfl b4 dX0_changeRates_29 ?_
        refine lv_iload_n hx hb dX0_changeRates_30 rfl (lv_at hl 1 rfl) ?_
        refine lv_aload_n hx hb dX0_changeRates_31 rfl (lv_at hl 0 rfl) ?_
        refine wr_get (C := RX0) (T := TX0) (N := 11) hx hb hts (in_X0_changeRates_X0) hown hK hP (k := 210) (by decide) ((tX_Carrier Z) _ _ _) rfl 6 (by decide) (hts (.fieldLink RX0 38 "TuneSearch$Carrier" "giverReach" "[I") (by decide +kernel)) (fun _ h9 => h9) rfl dX0_changeRates_32 ?_
        refine lv_iload_n hx hb dX0_changeRates_35 rfl (lv_at hl 2 rfl) ?_
        obtain ⟨b5, h⟩ := gB_e h
        refine wr_iald hx hb hK hP (k := 36) (by decide) 0 ((tX_I Z 36 (by decide)) _ _ _) rfl b5 dX0_changeRates_36 ?_
        refine lv_isub hx hb dX0_changeRates_37 ?_
        refine lv_iadd hx hb dX0_changeRates_38 ?_
        obtain ⟨b6, h⟩ := gB_e h
        refine wr_iast hx hb hK hP hJ hS (k := 34) (by decide) 0 (tX_I Z 34 (by decide)) rfl b6 dX0_changeRates_39 (fun H locs hP hS => ?_)
        obtain ⟨σ7, e8, h⟩ := lS_e h
        rw [← e8] at hP
        exact kb_X0_changeRates_40 Z    C  hc2 σ7 l1 l2 h H locs hP hS ls (lv_sub hl [0, 1, 2] rfl)
def m_X0_changeRates_0    (σ : SG) (p0 : Int32) : Option (Unit × SG) :=
  m_X0_changeRates_2    FV σ p0 0
set_option maxHeartbeats 4000000 in
set_option maxRecDepth 100000 in
theorem kb_X0_changeRates_0 {p : Program} {l : Launch} {e : Env} {s : State} {m : MethodId} {args : Array Value} {below : List Frame} {meth : Method} {c : Code} {E : EF} (Z : ZT)    (C : cy p s m args meth c cX0_changeRates none 3 RX0 wsX0_changeRates E (zD Z) vwCl 211 (za Z) (tysX Z)) {res : Unit × SG}   : ∀ (σ : SG) (p0 : Int32) , m_X0_changeRates_0    σ p0 = some res → ∀ (H : Heap) (locs : List Loc), ws_P (zD Z) vwCl 211 (za Z) (tX Z) σ H → va_S (ws_A 211 (za Z)) s.heap H locs → ∀ (ls : Array Slot), lv_has ls 3 [(0, .ref (za Z 210)), (1, .int p0)] → W p l e rm_X0_changeRates s m args below meth c H locs 0 0 (MQ below (xQv E (zD Z) vwCl 211 (za Z) (tX Z) (tysX Z) res) args s 0 0 (ws_A 211 (za Z))) (F0 m 0 ls []) := by
  have C0 := C
  obtain ⟨hx, hb, hr, hlocks, hml, hown, hts, hE, hJ, hK⟩ := C0
  intro σ p0  h H locs hP hS ls hl
  unfold m_X0_changeRates_0 at h
  refine lv_iconst (v := 0) hx hb dX0_changeRates_0 (by decide) ?_
  refine lv_istore_n (lv' := [(2, .int 0), (0, .ref (za Z 210)), (1, .int p0)]) hx hb dX0_changeRates_1 rfl hl (by decide) rfl (fun ls hl => ?_)
  exact kb_X0_changeRates_2 Z    C   FV σ p0 0 h H locs hP hS ls (lv_sub hl [1, 2, 0] rfl)
def m_X0_changeRates   (σ : SG) (p0 : Int32) : Option (Unit × SG) := m_X0_changeRates_0   σ p0
set_option maxHeartbeats 4000000 in
set_option maxRecDepth 100000 in
theorem k_X0_changeRates (l : Launch) {E : EF} (Z : ZT)    (σ : SG) (p0 : Int32) {res : Unit × SG} (h : m_X0_changeRates   σ p0 = some res) : Met l yX0_changeRates wsX0_changeRates rm_X0_changeRates (va_Pc [.ref (za Z 210), .int p0] (wx E (zD Z) vwCl 211 (za Z) (tX Z) (tysX Z) σ)) (xQv E (zD Z) vwCl 211 (za Z) (tX Z) (tysX Z) res) 0 0 (ws_A 211 (za Z)) := by
  refine Met.ofW (cc := cX0_changeRates) (maxL := 3) (ret := none) (by decide) rfl ?_
  intro p e s m args below meth c s₁ B hml hv
  obtain ⟨rfl, hE, hJ, hP, hK⟩ := hv
  have hl := lv_entry ([.ref (za Z 210), .int p0]) (n := 3) (Nat.le_of_ble_eq_true rfl)
  rw [lg_entry_eq]
  generalize (lg_sl ([.ref (za Z 210), .int p0]) ++ List.replicate (3 - (lg_sl ([.ref (za Z 210), .int p0])).length) Slot.unset).toArray = ls at hl ⊢
  exact kb_X0_changeRates_0 Z    ⟨B.exec, B.bytes, B.returns, B.notSynchronized, hml, findClass_of_methodNamed B.named, atoms_spec (ws := wsX0_changeRates) B.pre, hE, hJ, hK⟩ σ p0 h s.heap [] hP va_S.rf ls hl
/-! TuneSearch$Carrier.amountOnPath(II)I -/
abbrev rm_X0_amountOnPath : Room := { frames := 1, cells := 0, slots := 0, locals := 21 }
theorem in_X0_amountOnPath_X0 : ∀ w ∈ wsX00, w ∈ wsX0_amountOnPath := by decide +kernel
theorem in_X0_amountOnPath_X3 : ∀ w ∈ wsX30, w ∈ wsX0_amountOnPath := by decide +kernel
def m_X0_amountOnPath_33_s    (c33 : SG → Int32 → Int32 → Int32 → Option (Int32 × SG)) (σ : SG) (l3 : Int32) (l4 : Int32) (l5 : Int32) : Option (Int32 × SG) :=
  if 24 ≤ l5 then (some (l3, σ)) else (gB (inB l4 24) (if (σ.1 38 l4.toNatClampNeg) = (-1) then (some (l3, σ)) else (gB (inB l4 24) (gB (inB l4 24) (gB (inB (σ.1 38 l4.toNatClampNeg) 24) (lS (if (σ.1 (119 + l4.toNatClampNeg) (σ.1 38 l4.toNatClampNeg).toNatClampNeg) < l3 then (σ.1 (119 + l4.toNatClampNeg) (σ.1 38 l4.toNatClampNeg).toNatClampNeg) else l3) (fun v15 => gB (inB l4 24) (gB (inB (σ.1 38 l4.toNatClampNeg) 24) (lS (σ.1 39 (σ.1 38 l4.toNatClampNeg).toNatClampNeg) (fun v19 => lS (l5 + 1) (fun v21 => c33 σ v15 v19 v21)))))))))))
def m_X0_amountOnPath_33    : Nat → SG → Int32 → Int32 → Int32 → Option (Int32 × SG)
  | 0, _, _, _, _ => none
  | n + 1, σ, l3, l4, l5 => m_X0_amountOnPath_33_s    (m_X0_amountOnPath_33    n) σ l3 l4 l5
set_option maxHeartbeats 4000000 in
set_option maxRecDepth 100000 in
theorem kb_X0_amountOnPath_33 {p : Program} {l : Launch} {e : Env} {s : State} {m : MethodId} {args : Array Value} {below : List Frame} {meth : Method} {c : Code} {E : EF} (Z : ZT)    (C : cy p s m args meth c cX0_amountOnPath (some .int) 6 RX0 wsX0_amountOnPath E (zD Z) vwCl 211 (za Z) (tysX Z)) {res : Int32 × SG}   : ∀ (n : Nat) (σ : SG) (l3 : Int32) (l4 : Int32) (l5 : Int32) , m_X0_amountOnPath_33    n σ l3 l4 l5 = some res → ∀ (H : Heap) (locs : List Loc), ws_P (zD Z) vwCl 211 (za Z) (tX Z) σ H → va_S (ws_A 211 (za Z)) s.heap H locs → ∀ (ls : Array Slot), lv_has ls 6 [(0, .ref (za Z 210)), (3, .int l3), (4, .int l4), (5, .int l5)] → W p l e rm_X0_amountOnPath s m args below meth c H locs 0 0 (MQ below (xQi E (zD Z) vwCl 211 (za Z) (tX Z) (tysX Z) res) args s 0 0 (ws_A 211 (za Z))) (F0 m 33 ls []) := by
  have C0 := C
  obtain ⟨hx, hb, hr, hlocks, hml, hown, hts, hE, hJ, hK⟩ := C0
  intro n
  induction n with
  | zero =>
    intro σ l3 l4 l5  h
    cases h
  | succ n ih =>
    intro σ l3 l4 l5  h H locs hP hS ls hl
    have hc33 : ∀ (σ : SG) (l3 : Int32) (l4 : Int32) (l5 : Int32) , m_X0_amountOnPath_33    n σ l3 l4 l5 = some res → ∀ (H : Heap) (locs : List Loc), ws_P (zD Z) vwCl 211 (za Z) (tX Z) σ H → va_S (ws_A 211 (za Z)) s.heap H locs → ∀ (ls : Array Slot), lv_has ls 6 [(0, .ref (za Z 210)), (3, .int l3), (4, .int l4), (5, .int l5)] → W p l e rm_X0_amountOnPath s m args below meth c H locs 0 0 (MQ below (xQi E (zD Z) vwCl 211 (za Z) (tX Z) (tysX Z) res) args s 0 0 (ws_A 211 (za Z))) (F0 m 33 ls []) := ih
    have h : m_X0_amountOnPath_33_s    (m_X0_amountOnPath_33    n) σ l3 l4 l5 = some res := h
    unfold m_X0_amountOnPath_33_s at h
    refine lv_iload hx hb dX0_amountOnPath_33 (lv_at hl 3 rfl) ?_
    refine lv_bipush (v := 24) hx hb dX0_amountOnPath_35 (by decide) ?_
    refine lv_icmp_ge (tgt := 91) hx hb dX0_amountOnPath_37 (by decide) (fun q8 => ?_) (fun q8 => ?_)
    · have h := if_p h q8
      refine lv_iload_n hx hb dX0_amountOnPath_91 rfl (lv_at hl 1 rfl) ?_
      exact xr_iret hx hb hr hlocks hE hJ hK hP hS h dX0_amountOnPath_92
    · have h := if_n h q8
      refine lv_aload_n hx hb dX0_amountOnPath_40 rfl (lv_at hl 0 rfl) ?_
      refine wr_get (C := RX0) (T := TX0) (N := 11) hx hb hts (in_X0_amountOnPath_X0) hown hK hP (k := 210) (by decide) ((tX_Carrier Z) _ _ _) rfl 8 (by decide) (hts (.fieldLink RX0 44 "TuneSearch$Carrier" "giverVia" "[I") (by decide +kernel)) (fun _ h9 => h9) rfl dX0_amountOnPath_41 ?_
      refine lv_iload hx hb dX0_amountOnPath_44 (lv_at hl 2 rfl) ?_
      obtain ⟨b9, h⟩ := gB_e h
      refine wr_iald hx hb hK hP (k := 38) (by decide) 0 ((tX_I Z 38 (by decide)) _ _ _) rfl b9 dX0_amountOnPath_46 ?_
      refine lv_iconst (v := (-1)) hx hb dX0_amountOnPath_47 (by decide) ?_
      refine lv_icmp_eq (tgt := 91) hx hb dX0_amountOnPath_48 (by decide) (fun q10 => ?_) (fun q10 => ?_)
      · have h := if_p h q10
        refine lv_iload_n hx hb dX0_amountOnPath_91 rfl (lv_at hl 1 rfl) ?_
        exact xr_iret hx hb hr hlocks hE hJ hK hP hS h dX0_amountOnPath_92
      · have h := if_n h q10
        refine lv_iload_n hx hb dX0_amountOnPath_51 rfl (lv_at hl 1 rfl) ?_
        refine lv_aload_n hx hb dX0_amountOnPath_52 rfl (lv_at hl 0 rfl) ?_
        refine wr_get (C := RX0) (T := TX0) (N := 11) hx hb hts (in_X0_amountOnPath_X0) hown hK hP (k := 210) (by decide) ((tX_Carrier Z) _ _ _) rfl 3 (by decide) (hts (.fieldLink RX0 28 "TuneSearch$Carrier" "sent" "[[I") (by decide +kernel)) (fun _ h9 => h9) rfl dX0_amountOnPath_53 ?_
        refine lv_iload hx hb dX0_amountOnPath_56 (lv_at hl 2 rfl) ?_
        obtain ⟨b11, h⟩ := gB_e h
        have hi12 := inB_lt b11
        refine wr_aald hx hb hK hP (k := 154) (by decide) 5 rfl ((tX_sentO Z) _ _ _) rfl b11 (row_at hi12) dX0_amountOnPath_58 ?_
        refine lv_aload_n hx hb dX0_amountOnPath_59 rfl (lv_at hl 0 rfl) ?_
        refine wr_get (C := RX0) (T := TX0) (N := 11) hx hb hts (in_X0_amountOnPath_X0) hown hK hP (k := 210) (by decide) ((tX_Carrier Z) _ _ _) rfl 8 (by decide) (hts (.fieldLink RX0 44 "TuneSearch$Carrier" "giverVia" "[I") (by decide +kernel)) (fun _ h9 => h9) rfl dX0_amountOnPath_60 ?_
        refine lv_iload hx hb dX0_amountOnPath_63 (lv_at hl 2 rfl) ?_
        obtain ⟨b13, h⟩ := gB_e h
        refine wr_iald hx hb hK hP (k := 38) (by decide) 0 ((tX_I Z 38 (by decide)) _ _ _) rfl b13 dX0_amountOnPath_65 ?_
        obtain ⟨b14, h⟩ := gB_e h
        refine wr_iald hx hb hK hP (k := (119 + l4.toNatClampNeg)) (by omega) 0 ((tX_sent Z l4.toNatClampNeg hi12) _ _ _) rfl b14 dX0_amountOnPath_66 ?_
        refine va_mmin hx hb (by rw [hml]; exact hl.1.symm) hown (hts (.methodLink RX0 118 Lib.Math.min.name) (by decide +kernel)) (hts (.static Lib.Math.min.name) (by decide +kernel)) (hts (.initialized "java/lang/Math") (by decide +kernel)) (hts (.code Lib.Math.min.name Lib.Math.min.code 2 (some .int)) (by decide +kernel)) (Nat.le_of_ble_eq_true rfl) (Nat.le_of_ble_eq_true rfl) (Nat.le_of_ble_eq_true rfl) (Nat.le_of_ble_eq_true rfl) dX0_amountOnPath_67 ?_
        refine lv_topi (fun v15 e16 => ?_)
        have h := lS_u h e16
        refine lv_istore_n (lv' := [(3, .int v15), (0, .ref (za Z 210)), (4, .int l4), (5, .int l5)]) hx hb dX0_amountOnPath_70 rfl hl (by decide) rfl (fun ls hl => ?_)
        refine lv_aload_n hx hb dX0_amountOnPath_71 rfl (lv_at hl 1 rfl) ?_
        refine wr_get (C := RX0) (T := TX0) (N := 11) hx hb hts (in_X0_amountOnPath_X0) hown hK hP (k := 210) (by decide) ((tX_Carrier Z) _ _ _) rfl 9 (by decide) (hts (.fieldLink RX0 47 "TuneSearch$Carrier" "takerVia" "[I") (by decide +kernel)) (fun _ h9 => h9) rfl dX0_amountOnPath_72 ?_
        refine lv_aload_n hx hb dX0_amountOnPath_75 rfl (lv_at hl 1 rfl) ?_
        refine wr_get (C := RX0) (T := TX0) (N := 11) hx hb hts (in_X0_amountOnPath_X0) hown hK hP (k := 210) (by decide) ((tX_Carrier Z) _ _ _) rfl 8 (by decide) (hts (.fieldLink RX0 44 "TuneSearch$Carrier" "giverVia" "[I") (by decide +kernel)) (fun _ h9 => h9) rfl dX0_amountOnPath_76 ?_
        refine lv_iload hx hb dX0_amountOnPath_79 (lv_at hl 2 rfl) ?_
        obtain ⟨b17, h⟩ := gB_e h
        refine wr_iald hx hb hK hP (k := 38) (by decide) 0 ((tX_I Z 38 (by decide)) _ _ _) rfl b17 dX0_amountOnPath_81 ?_
        obtain ⟨b18, h⟩ := gB_e h
        refine wr_iald hx hb hK hP (k := 39) (by decide) 0 ((tX_I Z 39 (by decide)) _ _ _) rfl b18 dX0_amountOnPath_82 ?_
        refine lv_topi (fun v19 e20 => ?_)
        have h := lS_u h e20
        refine lv_istore (lv' := [(4, .int v19), (3, .int v15), (0, .ref (za Z 210)), (5, .int l5)]) hx hb dX0_amountOnPath_83 hl (by decide) rfl (fun ls hl => ?_)
        obtain ⟨v21, e22, h⟩ := lS_e h
        refine lv_iinc (v := v21) (lv' := [(5, .int v21), (4, .int v19), (3, .int v15), (0, .ref (za Z 210))]) hx hb dX0_amountOnPath_85 hl (k := 3) rfl (by rw [e22]; rfl) (by decide) rfl (fun ls hl => ?_)
        refine lv_goto (tgt := 33) hx hb dX0_amountOnPath_88 (by decide) ?_
        exact hc33 σ v15 v19 v21 h H locs hP hS ls (lv_sub hl [3, 2, 1, 0] rfl)
def m_X0_amountOnPath_0    (σ : SG) (p0 : Int32) (p1 : Int32) : Option (Int32 × SG) :=
  gB (inB p0 24) (gB (inB p1 24) (lS (if (σ.1 (32 + 1) p1.toNatClampNeg) < (σ.1 (32 + 0) p0.toNatClampNeg) then (σ.1 (32 + 1) p1.toNatClampNeg) else (σ.1 (32 + 0) p0.toNatClampNeg)) (fun v3 => gB (inB p1 24) (lS (σ.1 39 p1.toNatClampNeg) (fun v6 => m_X0_amountOnPath_33    FV σ v3 v6 0)))))
set_option maxHeartbeats 4000000 in
set_option maxRecDepth 100000 in
theorem kb_X0_amountOnPath_0 {p : Program} {l : Launch} {e : Env} {s : State} {m : MethodId} {args : Array Value} {below : List Frame} {meth : Method} {c : Code} {E : EF} (Z : ZT)    (C : cy p s m args meth c cX0_amountOnPath (some .int) 6 RX0 wsX0_amountOnPath E (zD Z) vwCl 211 (za Z) (tysX Z)) {res : Int32 × SG}   : ∀ (σ : SG) (p0 : Int32) (p1 : Int32) , m_X0_amountOnPath_0    σ p0 p1 = some res → ∀ (H : Heap) (locs : List Loc), ws_P (zD Z) vwCl 211 (za Z) (tX Z) σ H → va_S (ws_A 211 (za Z)) s.heap H locs → ∀ (ls : Array Slot), lv_has ls 6 [(0, .ref (za Z 210)), (1, .int p0), (2, .int p1)] → W p l e rm_X0_amountOnPath s m args below meth c H locs 0 0 (MQ below (xQi E (zD Z) vwCl 211 (za Z) (tX Z) (tysX Z) res) args s 0 0 (ws_A 211 (za Z))) (F0 m 0 ls []) := by
  have C0 := C
  obtain ⟨hx, hb, hr, hlocks, hml, hown, hts, hE, hJ, hK⟩ := C0
  intro σ p0 p1  h H locs hP hS ls hl
  unfold m_X0_amountOnPath_0 at h
  refine lv_aload_n hx hb dX0_amountOnPath_0 rfl (lv_at hl 0 rfl) ?_
  refine wr_get (C := RX0) (T := TX0) (N := 11) hx hb hts (in_X0_amountOnPath_X0) hown hK hP (k := 210) (by decide) ((tX_Carrier Z) _ _ _) rfl 0 (by decide) (hts (.fieldLink RX0 14 "TuneSearch$Carrier" "givers" "LTuneSearch$Load;") (by decide +kernel)) (fun _ h9 => h9) rfl dX0_amountOnPath_1 ?_
  refine wr_get (C := RX3) (T := TX3) (N := 5) hx hb hts (in_X0_amountOnPath_X3) hown hK hP (k := (208 + 0)) (by omega) ((tX_Load Z 0 (by decide)) _ _ _) rfl 2 (by decide) (hts (.fieldLink RX0 90 "TuneSearch$Load" "left" "[I") (by decide +kernel)) (fun _ h9 => h9) rfl dX0_amountOnPath_4 ?_
  refine lv_iload_n hx hb dX0_amountOnPath_7 rfl (lv_at hl 1 rfl) ?_
  obtain ⟨b1, h⟩ := gB_e h
  refine wr_iald hx hb hK hP (k := (32 + 0)) (by omega) 0 ((tX_ld_left Z 0 (by decide)) _ _ _) rfl b1 dX0_amountOnPath_8 ?_
  refine lv_aload_n hx hb dX0_amountOnPath_9 rfl (lv_at hl 0 rfl) ?_
  refine wr_get (C := RX0) (T := TX0) (N := 11) hx hb hts (in_X0_amountOnPath_X0) hown hK hP (k := 210) (by decide) ((tX_Carrier Z) _ _ _) rfl 1 (by decide) (hts (.fieldLink RX0 20 "TuneSearch$Carrier" "takers" "LTuneSearch$Load;") (by decide +kernel)) (fun _ h9 => h9) rfl dX0_amountOnPath_10 ?_
  refine wr_get (C := RX3) (T := TX3) (N := 5) hx hb hts (in_X0_amountOnPath_X3) hown hK hP (k := (208 + 1)) (by omega) ((tX_Load Z 1 (by decide)) _ _ _) rfl 2 (by decide) (hts (.fieldLink RX0 90 "TuneSearch$Load" "left" "[I") (by decide +kernel)) (fun _ h9 => h9) rfl dX0_amountOnPath_13 ?_
  refine lv_iload_n hx hb dX0_amountOnPath_16 rfl (lv_at hl 2 rfl) ?_
  obtain ⟨b2, h⟩ := gB_e h
  refine wr_iald hx hb hK hP (k := (32 + 1)) (by omega) 0 ((tX_ld_left Z 1 (by decide)) _ _ _) rfl b2 dX0_amountOnPath_17 ?_
  refine va_mmin hx hb (by rw [hml]; exact hl.1.symm) hown (hts (.methodLink RX0 118 Lib.Math.min.name) (by decide +kernel)) (hts (.static Lib.Math.min.name) (by decide +kernel)) (hts (.initialized "java/lang/Math") (by decide +kernel)) (hts (.code Lib.Math.min.name Lib.Math.min.code 2 (some .int)) (by decide +kernel)) (Nat.le_of_ble_eq_true rfl) (Nat.le_of_ble_eq_true rfl) (Nat.le_of_ble_eq_true rfl) (Nat.le_of_ble_eq_true rfl) dX0_amountOnPath_18 ?_
  refine lv_topi (fun v3 e4 => ?_)
  have h := lS_u h e4
  refine lv_istore_n (lv' := [(3, .int v3), (0, .ref (za Z 210)), (1, .int p0), (2, .int p1)]) hx hb dX0_amountOnPath_21 rfl hl (by decide) rfl (fun ls hl => ?_)
  refine lv_aload_n hx hb dX0_amountOnPath_22 rfl (lv_at hl 1 rfl) ?_
  refine wr_get (C := RX0) (T := TX0) (N := 11) hx hb hts (in_X0_amountOnPath_X0) hown hK hP (k := 210) (by decide) ((tX_Carrier Z) _ _ _) rfl 9 (by decide) (hts (.fieldLink RX0 47 "TuneSearch$Carrier" "takerVia" "[I") (by decide +kernel)) (fun _ h9 => h9) rfl dX0_amountOnPath_23 ?_
  refine lv_iload_n hx hb dX0_amountOnPath_26 rfl (lv_at hl 3 rfl) ?_
  obtain ⟨b5, h⟩ := gB_e h
  refine wr_iald hx hb hK hP (k := 39) (by decide) 0 ((tX_I Z 39 (by decide)) _ _ _) rfl b5 dX0_amountOnPath_27 ?_
  refine lv_topi (fun v6 e7 => ?_)
  have h := lS_u h e7
  refine lv_istore (lv' := [(4, .int v6), (3, .int v3), (0, .ref (za Z 210)), (1, .int p0), (2, .int p1)]) hx hb dX0_amountOnPath_28 hl (by decide) rfl (fun ls hl => ?_)
  refine lv_iconst (v := 0) hx hb dX0_amountOnPath_30 (by decide) ?_
  refine lv_istore (lv' := [(5, .int 0), (4, .int v6), (3, .int v3), (0, .ref (za Z 210)), (1, .int p0), (2, .int p1)]) hx hb dX0_amountOnPath_31 hl (by decide) rfl (fun ls hl => ?_)
  exact kb_X0_amountOnPath_33 Z    C   FV σ v3 v6 0 h H locs hP hS ls (lv_sub hl [3, 2, 1, 0] rfl)
def m_X0_amountOnPath   (σ : SG) (p0 : Int32) (p1 : Int32) : Option (Int32 × SG) := m_X0_amountOnPath_0   σ p0 p1
set_option maxHeartbeats 4000000 in
set_option maxRecDepth 100000 in
theorem k_X0_amountOnPath (l : Launch) {E : EF} (Z : ZT)    (σ : SG) (p0 : Int32) (p1 : Int32) {res : Int32 × SG} (h : m_X0_amountOnPath   σ p0 p1 = some res) : Met l yX0_amountOnPath wsX0_amountOnPath rm_X0_amountOnPath (va_Pc [.ref (za Z 210), .int p0, .int p1] (wx E (zD Z) vwCl 211 (za Z) (tX Z) (tysX Z) σ)) (xQi E (zD Z) vwCl 211 (za Z) (tX Z) (tysX Z) res) 0 0 (ws_A 211 (za Z)) := by
  refine Met.ofW (cc := cX0_amountOnPath) (maxL := 6) (ret := (some .int)) (by decide) rfl ?_
  intro p e s m args below meth c s₁ B hml hv
  obtain ⟨rfl, hE, hJ, hP, hK⟩ := hv
  have hl := lv_entry ([.ref (za Z 210), .int p0, .int p1]) (n := 6) (Nat.le_of_ble_eq_true rfl)
  rw [lg_entry_eq]
  generalize (lg_sl ([.ref (za Z 210), .int p0, .int p1]) ++ List.replicate (6 - (lg_sl ([.ref (za Z 210), .int p0, .int p1])).length) Slot.unset).toArray = ls at hl ⊢
  exact kb_X0_amountOnPath_0 Z    ⟨B.exec, B.bytes, B.returns, B.notSynchronized, hml, findClass_of_methodNamed B.named, atoms_spec (ws := wsX0_amountOnPath) B.pre, hE, hJ, hK⟩ σ p0 p1 h s.heap [] hP va_S.rf ls hl
/-! TuneSearch$Carrier.send(III)V -/
abbrev rm_X0_send : Room := { frames := 0, cells := 0, slots := 0, locals := 0 }
theorem in_X0_send_X0 : ∀ w ∈ wsX00, w ∈ wsX0_send := by decide +kernel
theorem in_X0_send_X3 : ∀ w ∈ wsX30, w ∈ wsX0_send := by decide +kernel
def m_X0_send_50_s    (c50 : SG → Int32 → Int32 → Int32 → Option (Unit × SG)) (σ : SG) (l3 : Int32) (l4 : Int32) (l5 : Int32) : Option (Unit × SG) :=
  if 24 ≤ l5 then (some ((), σ)) else (gB (inB l4 24) (if (σ.1 38 l4.toNatClampNeg) = (-1) then (some ((), σ)) else (gB (inB l4 24) (lS (σ.1 38 l4.toNatClampNeg) (fun v22 => gB (inB l4 24) (gB (inB v22 24) (gB (inB v22 24) (lS (sI σ (119 + l4.toNatClampNeg) v22.toNatClampNeg ((σ.1 (119 + l4.toNatClampNeg) v22.toNatClampNeg) - l3)) (fun σ28 => gB (inB v22 24) (lS (σ28.1 39 v22.toNatClampNeg) (fun v31 => gB (inB v31 24) (gB (inB v22 24) (gB (inB v22 24) (lS (sI σ28 (119 + v31.toNatClampNeg) v22.toNatClampNeg ((σ28.1 (119 + v31.toNatClampNeg) v22.toNatClampNeg) + l3)) (fun σ37 => lS (l5 + 1) (fun v39 => c50 σ37 l3 v31 v39))))))))))))))))
def m_X0_send_50    : Nat → SG → Int32 → Int32 → Int32 → Option (Unit × SG)
  | 0, _, _, _, _ => none
  | n + 1, σ, l3, l4, l5 => m_X0_send_50_s    (m_X0_send_50    n) σ l3 l4 l5
set_option maxHeartbeats 4000000 in
set_option maxRecDepth 100000 in
theorem kb_X0_send_50 {p : Program} {l : Launch} {e : Env} {s : State} {m : MethodId} {args : Array Value} {below : List Frame} {meth : Method} {c : Code} {E : EF} (Z : ZT)    (C : cy p s m args meth c cX0_send none 7 RX0 wsX0_send E (zD Z) vwCl 211 (za Z) (tysX Z)) {res : Unit × SG}   : ∀ (n : Nat) (σ : SG) (l3 : Int32) (l4 : Int32) (l5 : Int32) , m_X0_send_50    n σ l3 l4 l5 = some res → ∀ (H : Heap) (locs : List Loc), ws_P (zD Z) vwCl 211 (za Z) (tX Z) σ H → va_S (ws_A 211 (za Z)) s.heap H locs → ∀ (ls : Array Slot), lv_has ls 7 [(0, .ref (za Z 210)), (3, .int l3), (4, .int l4), (5, .int l5)] → W p l e rm_X0_send s m args below meth c H locs 0 0 (MQ below (xQv E (zD Z) vwCl 211 (za Z) (tX Z) (tysX Z) res) args s 0 0 (ws_A 211 (za Z))) (F0 m 50 ls []) := by
  have C0 := C
  obtain ⟨hx, hb, hr, hlocks, hml, hown, hts, hE, hJ, hK⟩ := C0
  intro n
  induction n with
  | zero =>
    intro σ l3 l4 l5  h
    cases h
  | succ n ih =>
    intro σ l3 l4 l5  h H locs hP hS ls hl
    have hc50 : ∀ (σ : SG) (l3 : Int32) (l4 : Int32) (l5 : Int32) , m_X0_send_50    n σ l3 l4 l5 = some res → ∀ (H : Heap) (locs : List Loc), ws_P (zD Z) vwCl 211 (za Z) (tX Z) σ H → va_S (ws_A 211 (za Z)) s.heap H locs → ∀ (ls : Array Slot), lv_has ls 7 [(0, .ref (za Z 210)), (3, .int l3), (4, .int l4), (5, .int l5)] → W p l e rm_X0_send s m args below meth c H locs 0 0 (MQ below (xQv E (zD Z) vwCl 211 (za Z) (tX Z) (tysX Z) res) args s 0 0 (ws_A 211 (za Z))) (F0 m 50 ls []) := ih
    have h : m_X0_send_50_s    (m_X0_send_50    n) σ l3 l4 l5 = some res := h
    unfold m_X0_send_50_s at h
    refine lv_iload hx hb dX0_send_50 (lv_at hl 3 rfl) ?_
    refine lv_bipush (v := 24) hx hb dX0_send_52 (by decide) ?_
    refine lv_icmp_ge (tgt := 120) hx hb dX0_send_54 (by decide) (fun q18 => ?_) (fun q18 => ?_)
    · have h := if_p h q18
      exact xr_vret hx hb hr hlocks hE hJ hK hP hS h dX0_send_120
    · have h := if_n h q18
      refine lv_aload_n hx hb dX0_send_57 rfl (lv_at hl 0 rfl) ?_
      refine wr_get (C := RX0) (T := TX0) (N := 11) hx hb hts (in_X0_send_X0) hown hK hP (k := 210) (by decide) ((tX_Carrier Z) _ _ _) rfl 8 (by decide) (hts (.fieldLink RX0 44 "TuneSearch$Carrier" "giverVia" "[I") (by decide +kernel)) (fun _ h9 => h9) rfl dX0_send_58 ?_
      refine lv_iload hx hb dX0_send_61 (lv_at hl 2 rfl) ?_
      obtain ⟨b19, h⟩ := gB_e h
      refine wr_iald hx hb hK hP (k := 38) (by decide) 0 ((tX_I Z 38 (by decide)) _ _ _) rfl b19 dX0_send_63 ?_
      refine lv_iconst (v := (-1)) hx hb dX0_send_64 (by decide) ?_
      refine lv_icmp_eq (tgt := 120) hx hb dX0_send_65 (by decide) (fun q20 => ?_) (fun q20 => ?_)
      · have h := if_p h q20
        exact xr_vret hx hb hr hlocks hE hJ hK hP hS h dX0_send_120
      · have h := if_n h q20
        refine lv_aload_n hx hb dX0_send_68 rfl (lv_at hl 0 rfl) ?_
        refine wr_get (C := RX0) (T := TX0) (N := 11) hx hb hts (in_X0_send_X0) hown hK hP (k := 210) (by decide) ((tX_Carrier Z) _ _ _) rfl 8 (by decide) (hts (.fieldLink RX0 44 "TuneSearch$Carrier" "giverVia" "[I") (by decide +kernel)) (fun _ h9 => h9) rfl dX0_send_69 ?_
        refine lv_iload hx hb dX0_send_72 (lv_at hl 2 rfl) ?_
        obtain ⟨b21, h⟩ := gB_e h
        refine wr_iald hx hb hK hP (k := 38) (by decide) 0 ((tX_I Z 38 (by decide)) _ _ _) rfl b21 dX0_send_74 ?_
        refine lv_topi (fun v22 e23 => ?_)
        have h := lS_u h e23
        refine lv_istore (lv' := [(6, .int v22), (0, .ref (za Z 210)), (3, .int l3), (4, .int l4), (5, .int l5)]) hx hb dX0_send_75 hl (by decide) rfl (fun ls hl => ?_)
        refine lv_aload_n hx hb dX0_send_77 rfl (lv_at hl 1 rfl) ?_
        refine wr_get (C := RX0) (T := TX0) (N := 11) hx hb hts (in_X0_send_X0) hown hK hP (k := 210) (by decide) ((tX_Carrier Z) _ _ _) rfl 3 (by decide) (hts (.fieldLink RX0 28 "TuneSearch$Carrier" "sent" "[[I") (by decide +kernel)) (fun _ h9 => h9) rfl dX0_send_78 ?_
        refine lv_iload hx hb dX0_send_81 (lv_at hl 3 rfl) ?_
        obtain ⟨b24, h⟩ := gB_e h
        have hi25 := inB_lt b24
        refine wr_aald hx hb hK hP (k := 154) (by decide) 5 rfl ((tX_sentO Z) _ _ _) rfl b24 (row_at hi25) dX0_send_83 ?_
        refine lv_iload hx hb dX0_send_84 (lv_at hl 0 rfl) ?_
        refine lv_dup2_11 hx hb dX0_send_86 rfl rfl ?_
        obtain ⟨b26, h⟩ := gB_e h
        refine wr_iald hx hb hK hP (k := (119 + l4.toNatClampNeg)) (by omega) 0 ((tX_sent Z l4.toNatClampNeg hi25) _ _ _) rfl b26 dX0_send_87 ?_
        refine lv_iload_n hx hb dX0_send_88 rfl (lv_at hl 2 rfl) ?_
        refine lv_isub hx hb dX0_send_89 ?_
        obtain ⟨b27, h⟩ := gB_e h
        refine wr_iast hx hb hK hP hJ hS (k := (119 + l4.toNatClampNeg)) (by omega) 0 (tX_sent Z l4.toNatClampNeg hi25) rfl b27 dX0_send_90 (fun H locs hP hS => ?_)
        obtain ⟨σ28, e29, h⟩ := lS_e h
        rw [← e29] at hP
        refine lv_aload_n hx hb dX0_send_91 rfl (lv_at hl 1 rfl) ?_
        refine wr_get (C := RX0) (T := TX0) (N := 11) hx hb hts (in_X0_send_X0) hown hK hP (k := 210) (by decide) ((tX_Carrier Z) _ _ _) rfl 9 (by decide) (hts (.fieldLink RX0 47 "TuneSearch$Carrier" "takerVia" "[I") (by decide +kernel)) (fun _ h9 => h9) rfl dX0_send_92 ?_
        refine lv_iload hx hb dX0_send_95 (lv_at hl 0 rfl) ?_
        obtain ⟨b30, h⟩ := gB_e h
        refine wr_iald hx hb hK hP (k := 39) (by decide) 0 ((tX_I Z 39 (by decide)) _ _ _) rfl b30 dX0_send_97 ?_
        refine lv_topi (fun v31 e32 => ?_)
        have h := lS_u h e32
        refine lv_istore (lv' := [(4, .int v31), (6, .int v22), (0, .ref (za Z 210)), (3, .int l3), (5, .int l5)]) hx hb dX0_send_98 hl (by decide) rfl (fun ls hl => ?_)
        refine lv_aload_n hx hb dX0_send_100 rfl (lv_at hl 2 rfl) ?_
        refine wr_get (C := RX0) (T := TX0) (N := 11) hx hb hts (in_X0_send_X0) hown hK hP (k := 210) (by decide) ((tX_Carrier Z) _ _ _) rfl 3 (by decide) (hts (.fieldLink RX0 28 "TuneSearch$Carrier" "sent" "[[I") (by decide +kernel)) (fun _ h9 => h9) rfl dX0_send_101 ?_
        refine lv_iload hx hb dX0_send_104 (lv_at hl 0 rfl) ?_
        obtain ⟨b33, h⟩ := gB_e h
        have hi34 := inB_lt b33
        refine wr_aald hx hb hK hP (k := 154) (by decide) 5 rfl ((tX_sentO Z) _ _ _) rfl b33 (row_at hi34) dX0_send_106 ?_
        refine lv_iload hx hb dX0_send_107 (lv_at hl 1 rfl) ?_
        refine lv_dup2_11 hx hb dX0_send_109 rfl rfl ?_
        obtain ⟨b35, h⟩ := gB_e h
        refine wr_iald hx hb hK hP (k := (119 + v31.toNatClampNeg)) (by omega) 0 ((tX_sent Z v31.toNatClampNeg hi34) _ _ _) rfl b35 dX0_send_110 ?_
        refine lv_iload_n hx hb dX0_send_111 rfl (lv_at hl 3 rfl) ?_
        refine lv_iadd hx hb dX0_send_112 ?_
        obtain ⟨b36, h⟩ := gB_e h
        refine wr_iast hx hb hK hP hJ hS (k := (119 + v31.toNatClampNeg)) (by omega) 0 (tX_sent Z v31.toNatClampNeg hi34) rfl b36 dX0_send_113 (fun H locs hP hS => ?_)
        obtain ⟨σ37, e38, h⟩ := lS_e h
        rw [← e38] at hP
        obtain ⟨v39, e40, h⟩ := lS_e h
        refine lv_iinc (v := v39) (lv' := [(5, .int v39), (4, .int v31), (6, .int v22), (0, .ref (za Z 210)), (3, .int l3)]) hx hb dX0_send_114 hl (k := 4) rfl (by rw [e40]; rfl) (by decide) rfl (fun ls hl => ?_)
        refine lv_goto (tgt := 50) hx hb dX0_send_117 (by decide) ?_
        exact hc50 σ37 l3 v31 v39 h H locs hP hS ls (lv_sub hl [3, 4, 1, 0] rfl)
def m_X0_send_0    (σ : SG) (p0 : Int32) (p1 : Int32) (p2 : Int32) : Option (Unit × SG) :=
  gB (inB p0 24) (gB (inB p0 24) (lS (sI σ (32 + 0) p0.toNatClampNeg ((σ.1 (32 + 0) p0.toNatClampNeg) - p2)) (fun σ3 => gB (inB p1 24) (gB (inB p1 24) (lS (sI σ3 (32 + 1) p1.toNatClampNeg ((σ3.1 (32 + 1) p1.toNatClampNeg) - p2)) (fun σ7 => gB (inB p1 24) (lS (σ7.1 39 p1.toNatClampNeg) (fun v10 => gB (inB v10 24) (gB (inB p1 24) (gB (inB p1 24) (lS (sI σ7 (119 + v10.toNatClampNeg) p1.toNatClampNeg ((σ7.1 (119 + v10.toNatClampNeg) p1.toNatClampNeg) + p2)) (fun σ16 => m_X0_send_50    FV σ16 p2 v10 0))))))))))))
set_option maxHeartbeats 4000000 in
set_option maxRecDepth 100000 in
theorem kb_X0_send_0 {p : Program} {l : Launch} {e : Env} {s : State} {m : MethodId} {args : Array Value} {below : List Frame} {meth : Method} {c : Code} {E : EF} (Z : ZT)    (C : cy p s m args meth c cX0_send none 7 RX0 wsX0_send E (zD Z) vwCl 211 (za Z) (tysX Z)) {res : Unit × SG}   : ∀ (σ : SG) (p0 : Int32) (p1 : Int32) (p2 : Int32) , m_X0_send_0    σ p0 p1 p2 = some res → ∀ (H : Heap) (locs : List Loc), ws_P (zD Z) vwCl 211 (za Z) (tX Z) σ H → va_S (ws_A 211 (za Z)) s.heap H locs → ∀ (ls : Array Slot), lv_has ls 7 [(0, .ref (za Z 210)), (1, .int p0), (2, .int p1), (3, .int p2)] → W p l e rm_X0_send s m args below meth c H locs 0 0 (MQ below (xQv E (zD Z) vwCl 211 (za Z) (tX Z) (tysX Z) res) args s 0 0 (ws_A 211 (za Z))) (F0 m 0 ls []) := by
  have C0 := C
  obtain ⟨hx, hb, hr, hlocks, hml, hown, hts, hE, hJ, hK⟩ := C0
  intro σ p0 p1 p2  h H locs hP hS ls hl
  unfold m_X0_send_0 at h
  refine lv_aload_n hx hb dX0_send_0 rfl (lv_at hl 0 rfl) ?_
  refine wr_get (C := RX0) (T := TX0) (N := 11) hx hb hts (in_X0_send_X0) hown hK hP (k := 210) (by decide) ((tX_Carrier Z) _ _ _) rfl 0 (by decide) (hts (.fieldLink RX0 14 "TuneSearch$Carrier" "givers" "LTuneSearch$Load;") (by decide +kernel)) (fun _ h9 => h9) rfl dX0_send_1 ?_
  refine wr_get (C := RX3) (T := TX3) (N := 5) hx hb hts (in_X0_send_X3) hown hK hP (k := (208 + 0)) (by omega) ((tX_Load Z 0 (by decide)) _ _ _) rfl 2 (by decide) (hts (.fieldLink RX0 90 "TuneSearch$Load" "left" "[I") (by decide +kernel)) (fun _ h9 => h9) rfl dX0_send_4 ?_
  refine lv_iload_n hx hb dX0_send_7 rfl (lv_at hl 1 rfl) ?_
  refine lv_dup2_11 hx hb dX0_send_8 rfl rfl ?_
  obtain ⟨b1, h⟩ := gB_e h
  refine wr_iald hx hb hK hP (k := (32 + 0)) (by omega) 0 ((tX_ld_left Z 0 (by decide)) _ _ _) rfl b1 dX0_send_9 ?_
  refine lv_iload_n hx hb dX0_send_10 rfl (lv_at hl 3 rfl) ?_
  refine lv_isub hx hb dX0_send_11 ?_
  obtain ⟨b2, h⟩ := gB_e h
  refine wr_iast hx hb hK hP hJ hS (k := (32 + 0)) (by omega) 0 (tX_ld_left Z 0 (by decide)) rfl b2 dX0_send_12 (fun H locs hP hS => ?_)
  obtain ⟨σ3, e4, h⟩ := lS_e h
  rw [← e4] at hP
  refine lv_aload_n hx hb dX0_send_13 rfl (lv_at hl 0 rfl) ?_
  refine wr_get (C := RX0) (T := TX0) (N := 11) hx hb hts (in_X0_send_X0) hown hK hP (k := 210) (by decide) ((tX_Carrier Z) _ _ _) rfl 1 (by decide) (hts (.fieldLink RX0 20 "TuneSearch$Carrier" "takers" "LTuneSearch$Load;") (by decide +kernel)) (fun _ h9 => h9) rfl dX0_send_14 ?_
  refine wr_get (C := RX3) (T := TX3) (N := 5) hx hb hts (in_X0_send_X3) hown hK hP (k := (208 + 1)) (by omega) ((tX_Load Z 1 (by decide)) _ _ _) rfl 2 (by decide) (hts (.fieldLink RX0 90 "TuneSearch$Load" "left" "[I") (by decide +kernel)) (fun _ h9 => h9) rfl dX0_send_17 ?_
  refine lv_iload_n hx hb dX0_send_20 rfl (lv_at hl 2 rfl) ?_
  refine lv_dup2_11 hx hb dX0_send_21 rfl rfl ?_
  obtain ⟨b5, h⟩ := gB_e h
  refine wr_iald hx hb hK hP (k := (32 + 1)) (by omega) 0 ((tX_ld_left Z 1 (by decide)) _ _ _) rfl b5 dX0_send_22 ?_
  refine lv_iload_n hx hb dX0_send_23 rfl (lv_at hl 3 rfl) ?_
  refine lv_isub hx hb dX0_send_24 ?_
  obtain ⟨b6, h⟩ := gB_e h
  refine wr_iast hx hb hK hP hJ hS (k := (32 + 1)) (by omega) 0 (tX_ld_left Z 1 (by decide)) rfl b6 dX0_send_25 (fun H locs hP hS => ?_)
  obtain ⟨σ7, e8, h⟩ := lS_e h
  rw [← e8] at hP
  refine lv_aload_n hx hb dX0_send_26 rfl (lv_at hl 0 rfl) ?_
  refine wr_get (C := RX0) (T := TX0) (N := 11) hx hb hts (in_X0_send_X0) hown hK hP (k := 210) (by decide) ((tX_Carrier Z) _ _ _) rfl 9 (by decide) (hts (.fieldLink RX0 47 "TuneSearch$Carrier" "takerVia" "[I") (by decide +kernel)) (fun _ h9 => h9) rfl dX0_send_27 ?_
  refine lv_iload_n hx hb dX0_send_30 rfl (lv_at hl 2 rfl) ?_
  obtain ⟨b9, h⟩ := gB_e h
  refine wr_iald hx hb hK hP (k := 39) (by decide) 0 ((tX_I Z 39 (by decide)) _ _ _) rfl b9 dX0_send_31 ?_
  refine lv_topi (fun v10 e11 => ?_)
  have h := lS_u h e11
  refine lv_istore (lv' := [(4, .int v10), (0, .ref (za Z 210)), (1, .int p0), (2, .int p1), (3, .int p2)]) hx hb dX0_send_32 hl (by decide) rfl (fun ls hl => ?_)
  refine lv_aload_n hx hb dX0_send_34 rfl (lv_at hl 1 rfl) ?_
  refine wr_get (C := RX0) (T := TX0) (N := 11) hx hb hts (in_X0_send_X0) hown hK hP (k := 210) (by decide) ((tX_Carrier Z) _ _ _) rfl 3 (by decide) (hts (.fieldLink RX0 28 "TuneSearch$Carrier" "sent" "[[I") (by decide +kernel)) (fun _ h9 => h9) rfl dX0_send_35 ?_
  refine lv_iload hx hb dX0_send_38 (lv_at hl 0 rfl) ?_
  obtain ⟨b12, h⟩ := gB_e h
  have hi13 := inB_lt b12
  refine wr_aald hx hb hK hP (k := 154) (by decide) 5 rfl ((tX_sentO Z) _ _ _) rfl b12 (row_at hi13) dX0_send_40 ?_
  refine lv_iload_n hx hb dX0_send_41 rfl (lv_at hl 3 rfl) ?_
  refine lv_dup2_11 hx hb dX0_send_42 rfl rfl ?_
  obtain ⟨b14, h⟩ := gB_e h
  refine wr_iald hx hb hK hP (k := (119 + v10.toNatClampNeg)) (by omega) 0 ((tX_sent Z v10.toNatClampNeg hi13) _ _ _) rfl b14 dX0_send_43 ?_
  refine lv_iload_n hx hb dX0_send_44 rfl (lv_at hl 4 rfl) ?_
  refine lv_iadd hx hb dX0_send_45 ?_
  obtain ⟨b15, h⟩ := gB_e h
  refine wr_iast hx hb hK hP hJ hS (k := (119 + v10.toNatClampNeg)) (by omega) 0 (tX_sent Z v10.toNatClampNeg hi13) rfl b15 dX0_send_46 (fun H locs hP hS => ?_)
  obtain ⟨σ16, e17, h⟩ := lS_e h
  rw [← e17] at hP
  refine lv_iconst (v := 0) hx hb dX0_send_47 (by decide) ?_
  refine lv_istore (lv' := [(5, .int 0), (4, .int v10), (0, .ref (za Z 210)), (1, .int p0), (2, .int p1), (3, .int p2)]) hx hb dX0_send_48 hl (by decide) rfl (fun ls hl => ?_)
  exact kb_X0_send_50 Z    C   FV σ16 p2 v10 0 h H locs hP hS ls (lv_sub hl [2, 5, 1, 0] rfl)
def m_X0_send   (σ : SG) (p0 : Int32) (p1 : Int32) (p2 : Int32) : Option (Unit × SG) := m_X0_send_0   σ p0 p1 p2
set_option maxHeartbeats 4000000 in
set_option maxRecDepth 100000 in
theorem k_X0_send (l : Launch) {E : EF} (Z : ZT)    (σ : SG) (p0 : Int32) (p1 : Int32) (p2 : Int32) {res : Unit × SG} (h : m_X0_send   σ p0 p1 p2 = some res) : Met l yX0_send wsX0_send rm_X0_send (va_Pc [.ref (za Z 210), .int p0, .int p1, .int p2] (wx E (zD Z) vwCl 211 (za Z) (tX Z) (tysX Z) σ)) (xQv E (zD Z) vwCl 211 (za Z) (tX Z) (tysX Z) res) 0 0 (ws_A 211 (za Z)) := by
  refine Met.ofW (cc := cX0_send) (maxL := 7) (ret := none) (by decide) rfl ?_
  intro p e s m args below meth c s₁ B hml hv
  obtain ⟨rfl, hE, hJ, hP, hK⟩ := hv
  have hl := lv_entry ([.ref (za Z 210), .int p0, .int p1, .int p2]) (n := 7) (Nat.le_of_ble_eq_true rfl)
  rw [lg_entry_eq]
  generalize (lg_sl ([.ref (za Z 210), .int p0, .int p1, .int p2]) ++ List.replicate (7 - (lg_sl ([.ref (za Z 210), .int p0, .int p1, .int p2])).length) Slot.unset).toArray = ls at hl ⊢
  exact kb_X0_send_0 Z    ⟨B.exec, B.bytes, B.returns, B.notSynchronized, hml, findClass_of_methodNamed B.named, atoms_spec (ws := wsX0_send) B.pre, hE, hJ, hK⟩ σ p0 p1 p2 h s.heap [] hP va_S.rf ls hl
/-! TuneSearch$Carrier.sendAll(I)V -/
abbrev rm_X0_sendAll : Room := { frames := 3, cells := 0, slots := 0, locals := 70 }
theorem in_X0_sendAll_X0 : ∀ w ∈ wsX00, w ∈ wsX0_sendAll := by decide +kernel
theorem in_X0_sendAll_X3 : ∀ w ∈ wsX30, w ∈ wsX0_sendAll := by decide +kernel
def m_X0_sendAll_2_s    (c2 : SG → Int32 → Int32 → Option (Unit × SG)) (σ : SG) (l1 : Int32) (l2 : Int32) : Option (Unit × SG) :=
  if 64 ≤ l2 then (some ((), σ)) else (gB (inB l1 24) (if (σ.1 (32 + 0) l1.toNatClampNeg) ≤ 0 then (some ((), σ)) else (bi (m_X0_nearestOpenTaker  σ l1) (fun v4 σ5 => if ¬ v4 = (-1) then (gB (inB v4 24) (bi (m_X0_changeRates  σ5 (σ5.1 37 v4.toNatClampNeg)) (fun v9 σ10 => bi (m_X0_amountOnPath  σ10 l1 v4) (fun v12 σ13 => bi (m_X0_send  σ13 l1 v4 v12) (fun v15 σ16 => lS (l2 + 1) (fun v18 => c2 σ16 l1 v18)))))) else (some ((), σ5))))))
def m_X0_sendAll_2    : Nat → SG → Int32 → Int32 → Option (Unit × SG)
  | 0, _, _, _ => none
  | n + 1, σ, l1, l2 => m_X0_sendAll_2_s    (m_X0_sendAll_2    n) σ l1 l2
set_option maxHeartbeats 4000000 in
set_option maxRecDepth 100000 in
theorem kb_X0_sendAll_2 {p : Program} {l : Launch} {e : Env} {s : State} {m : MethodId} {args : Array Value} {below : List Frame} {meth : Method} {c : Code} {E : EF} (Z : ZT)    (C : cy p s m args meth c cX0_sendAll none 4 RX0 wsX0_sendAll E (zD Z) vwCl 211 (za Z) (tysX Z)) {res : Unit × SG}   : ∀ (n : Nat) (σ : SG) (l1 : Int32) (l2 : Int32) , m_X0_sendAll_2    n σ l1 l2 = some res → ∀ (H : Heap) (locs : List Loc), ws_P (zD Z) vwCl 211 (za Z) (tX Z) σ H → va_S (ws_A 211 (za Z)) s.heap H locs → ∀ (ls : Array Slot), lv_has ls 4 [(0, .ref (za Z 210)), (1, .int l1), (2, .int l2)] → W p l e rm_X0_sendAll s m args below meth c H locs 0 0 (MQ below (xQv E (zD Z) vwCl 211 (za Z) (tX Z) (tysX Z) res) args s 0 0 (ws_A 211 (za Z))) (F0 m 2 ls []) := by
  have C0 := C
  obtain ⟨hx, hb, hr, hlocks, hml, hown, hts, hE, hJ, hK⟩ := C0
  intro n
  induction n with
  | zero =>
    intro σ l1 l2  h
    cases h
  | succ n ih =>
    intro σ l1 l2  h H locs hP hS ls hl
    have hc2 : ∀ (σ : SG) (l1 : Int32) (l2 : Int32) , m_X0_sendAll_2    n σ l1 l2 = some res → ∀ (H : Heap) (locs : List Loc), ws_P (zD Z) vwCl 211 (za Z) (tX Z) σ H → va_S (ws_A 211 (za Z)) s.heap H locs → ∀ (ls : Array Slot), lv_has ls 4 [(0, .ref (za Z 210)), (1, .int l1), (2, .int l2)] → W p l e rm_X0_sendAll s m args below meth c H locs 0 0 (MQ below (xQv E (zD Z) vwCl 211 (za Z) (tX Z) (tysX Z) res) args s 0 0 (ws_A 211 (za Z))) (F0 m 2 ls []) := ih
    have h : m_X0_sendAll_2_s    (m_X0_sendAll_2    n) σ l1 l2 = some res := h
    unfold m_X0_sendAll_2_s at h
    refine lv_iload_n hx hb dX0_sendAll_2 rfl (lv_at hl 2 rfl) ?_
    refine lv_bipush (v := 64) hx hb dX0_sendAll_3 (by decide) ?_
    refine lv_icmp_ge (tgt := 60) hx hb dX0_sendAll_5 (by decide) (fun q1 => ?_) (fun q1 => ?_)
    · have h := if_p h q1
      exact xr_vret hx hb hr hlocks hE hJ hK hP hS h dX0_sendAll_60
    · have h := if_n h q1
      refine lv_aload_n hx hb dX0_sendAll_8 rfl (lv_at hl 0 rfl) ?_
      refine wr_get (C := RX0) (T := TX0) (N := 11) hx hb hts (in_X0_sendAll_X0) hown hK hP (k := 210) (by decide) ((tX_Carrier Z) _ _ _) rfl 0 (by decide) (hts (.fieldLink RX0 14 "TuneSearch$Carrier" "givers" "LTuneSearch$Load;") (by decide +kernel)) (fun _ h9 => h9) rfl dX0_sendAll_9 ?_
      refine wr_get (C := RX3) (T := TX3) (N := 5) hx hb hts (in_X0_sendAll_X3) hown hK hP (k := (208 + 0)) (by omega) ((tX_Load Z 0 (by decide)) _ _ _) rfl 2 (by decide) (hts (.fieldLink RX0 90 "TuneSearch$Load" "left" "[I") (by decide +kernel)) (fun _ h9 => h9) rfl dX0_sendAll_12 ?_
      refine lv_iload_n hx hb dX0_sendAll_15 rfl (lv_at hl 1 rfl) ?_
      obtain ⟨b2, h⟩ := gB_e h
      refine wr_iald hx hb hK hP (k := (32 + 0)) (by omega) 0 ((tX_ld_left Z 0 (by decide)) _ _ _) rfl b2 dX0_sendAll_16 ?_
      refine lv_if_le (tgt := 60) hx hb dX0_sendAll_17 (by decide) (fun q3 => ?_) (fun q3 => ?_)
      · have h := if_p h q3
        exact xr_vret hx hb hr hlocks hE hJ hK hP hS h dX0_sendAll_60
      · have h := if_n h q3
        refine lv_aload_n hx hb dX0_sendAll_20 rfl (lv_at hl 0 rfl) ?_
        refine lv_iload_n hx hb dX0_sendAll_21 rfl (lv_at hl 1 rfl) ?_
        obtain ⟨v4, σ5, hm6, h⟩ := bi_e h
        refine xr_calli (res := (v4, σ5)) (va_runV (As := [.int l1]) (rest := []) ⟨hx, hb, hml, hown, hts⟩ (k_X0_nearestOpenTaker l Z   σ l1 hm6) (cwV 1 hts gX0_sendAll_X0_nearestOpenTaker rfl rfl rfl (by decide +kernel) ⟨Nat.le_of_ble_eq_true rfl, Nat.le_of_ble_eq_true rfl⟩) ⟨wx_blind, wr_recv hK hP (k := 210) (by decide) ((tX_Carrier Z) _ _ _) rfl, fun U hU hW => ⟨rfl, wx_at hE hJ hP hK hS hU hW⟩⟩ rfl rfl hl.1 rfl (lv_room (Nat.le_of_ble_eq_true rfl)) dX0_sendAll_22 ⟨Nat.le_of_ble_eq_true rfl, Nat.le_of_ble_eq_true rfl⟩) hS (fun H locs hP hS => ?_)
        have hP : ws_P (zD Z) vwCl 211 (za Z) (tX Z) σ5 H := hP
        refine lv_istore_n (lv' := [(3, .int v4), (0, .ref (za Z 210)), (1, .int l1), (2, .int l2)]) hx hb dX0_sendAll_25 rfl hl (by decide) rfl (fun ls hl => ?_)
        refine lv_iload_n hx hb dX0_sendAll_26 rfl (lv_at hl 0 rfl) ?_
        refine lv_iconst (v := (-1)) hx hb dX0_sendAll_27 (by decide) ?_
        refine lv_icmp_ne (tgt := 32) hx hb dX0_sendAll_28 (by decide) (fun q7 => ?_) (fun q7 => ?_)
        · have h := if_p h q7
          refine lv_aload_n hx hb dX0_sendAll_32 rfl (lv_at hl 1 rfl) ?_
          refine lv_aload_n hx hb dX0_sendAll_33 rfl (lv_at hl 1 rfl) ?_
          refine wr_get (C := RX0) (T := TX0) (N := 11) hx hb hts (in_X0_sendAll_X0) hown hK hP (k := 210) (by decide) ((tX_Carrier Z) _ _ _) rfl 7 (by decide) (hts (.fieldLink RX0 41 "TuneSearch$Carrier" "takerReach" "[I") (by decide +kernel)) (fun _ h9 => h9) rfl dX0_sendAll_34 ?_
          refine lv_iload_n hx hb dX0_sendAll_37 rfl (lv_at hl 0 rfl) ?_
          obtain ⟨b8, h⟩ := gB_e h
          refine wr_iald hx hb hK hP (k := 37) (by decide) 0 ((tX_I Z 37 (by decide)) _ _ _) rfl b8 dX0_sendAll_38 ?_
          obtain ⟨v9, σ10, hm11, h⟩ := bi_e h
          refine xr_callv (res := (v9, σ10)) (va_runV (As := [.int (σ5.1 37 v4.toNatClampNeg)]) (rest := []) ⟨hx, hb, hml, hown, hts⟩ (k_X0_changeRates l Z   σ5 (σ5.1 37 v4.toNatClampNeg) hm11) (cwV 1 hts gX0_sendAll_X0_changeRates rfl rfl rfl (by decide +kernel) ⟨Nat.le_of_ble_eq_true rfl, Nat.le_of_ble_eq_true rfl⟩) ⟨wx_blind, wr_recv hK hP (k := 210) (by decide) ((tX_Carrier Z) _ _ _) rfl, fun U hU hW => ⟨rfl, wx_at hE hJ hP hK hS hU hW⟩⟩ rfl rfl hl.1 rfl (lv_room (Nat.le_of_ble_eq_true rfl)) dX0_sendAll_39 ⟨Nat.le_of_ble_eq_true rfl, Nat.le_of_ble_eq_true rfl⟩) hS (fun H locs hP hS => ?_)
          have hP : ws_P (zD Z) vwCl 211 (za Z) (tX Z) σ10 H := hP
          refine lv_aload_n hx hb dX0_sendAll_42 rfl (lv_at hl 1 rfl) ?_
          refine lv_iload_n hx hb dX0_sendAll_43 rfl (lv_at hl 2 rfl) ?_
          refine lv_iload_n hx hb dX0_sendAll_44 rfl (lv_at hl 0 rfl) ?_
          refine lv_aload_n hx hb dX0_sendAll_45 rfl (lv_at hl 1 rfl) ?_
          refine lv_iload_n hx hb dX0_sendAll_46 rfl (lv_at hl 2 rfl) ?_
          refine lv_iload_n hx hb dX0_sendAll_47 rfl (lv_at hl 0 rfl) ?_
          obtain ⟨v12, σ13, hm14, h⟩ := bi_e h
          refine xr_calli (res := (v12, σ13)) (va_runV (As := [.int l1, .int v4]) (rest := [.int v4, .int l1, .ref (za Z 210)]) ⟨hx, hb, hml, hown, hts⟩ (k_X0_amountOnPath l Z   σ10 l1 v4 hm14) (cwV 2 hts gX0_sendAll_X0_amountOnPath rfl rfl rfl (by decide +kernel) ⟨Nat.le_of_ble_eq_true rfl, Nat.le_of_ble_eq_true rfl⟩) ⟨wx_blind, wr_recv hK hP (k := 210) (by decide) ((tX_Carrier Z) _ _ _) rfl, fun U hU hW => ⟨rfl, wx_at hE hJ hP hK hS hU hW⟩⟩ rfl rfl hl.1 rfl (lv_room (Nat.le_of_ble_eq_true rfl)) dX0_sendAll_48 ⟨Nat.le_of_ble_eq_true rfl, Nat.le_of_ble_eq_true rfl⟩) hS (fun H locs hP hS => ?_)
          have hP : ws_P (zD Z) vwCl 211 (za Z) (tX Z) σ13 H := hP
          obtain ⟨v15, σ16, hm17, h⟩ := bi_e h
          refine xr_callv (res := (v15, σ16)) (va_runV (As := [.int l1, .int v4, .int v12]) (rest := []) ⟨hx, hb, hml, hown, hts⟩ (k_X0_send l Z   σ13 l1 v4 v12 hm17) (cwV 3 hts gX0_sendAll_X0_send rfl rfl rfl (by decide +kernel) ⟨Nat.le_of_ble_eq_true rfl, Nat.le_of_ble_eq_true rfl⟩) ⟨wx_blind, wr_recv hK hP (k := 210) (by decide) ((tX_Carrier Z) _ _ _) rfl, fun U hU hW => ⟨rfl, wx_at hE hJ hP hK hS hU hW⟩⟩ rfl rfl hl.1 rfl (lv_room (Nat.le_of_ble_eq_true rfl)) dX0_sendAll_51 ⟨Nat.le_of_ble_eq_true rfl, Nat.le_of_ble_eq_true rfl⟩) hS (fun H locs hP hS => ?_)
          have hP : ws_P (zD Z) vwCl 211 (za Z) (tX Z) σ16 H := hP
          obtain ⟨v18, e19, h⟩ := lS_e h
          refine lv_iinc (v := v18) (lv' := [(2, .int v18), (3, .int v4), (0, .ref (za Z 210)), (1, .int l1)]) hx hb dX0_sendAll_54 hl (k := 3) rfl (by rw [e19]; rfl) (by decide) rfl (fun ls hl => ?_)
          refine lv_goto (tgt := 2) hx hb dX0_sendAll_57 (by decide) ?_
          exact hc2 σ16 l1 v18 h H locs hP hS ls (lv_sub hl [2, 3, 0] rfl)
        · have h := if_n h (fun z => z q7)
          exact xr_vret hx hb hr hlocks hE hJ hK hP hS h dX0_sendAll_31
def m_X0_sendAll_0    (σ : SG) (p0 : Int32) : Option (Unit × SG) :=
  m_X0_sendAll_2    FV σ p0 0
set_option maxHeartbeats 4000000 in
set_option maxRecDepth 100000 in
theorem kb_X0_sendAll_0 {p : Program} {l : Launch} {e : Env} {s : State} {m : MethodId} {args : Array Value} {below : List Frame} {meth : Method} {c : Code} {E : EF} (Z : ZT)    (C : cy p s m args meth c cX0_sendAll none 4 RX0 wsX0_sendAll E (zD Z) vwCl 211 (za Z) (tysX Z)) {res : Unit × SG}   : ∀ (σ : SG) (p0 : Int32) , m_X0_sendAll_0    σ p0 = some res → ∀ (H : Heap) (locs : List Loc), ws_P (zD Z) vwCl 211 (za Z) (tX Z) σ H → va_S (ws_A 211 (za Z)) s.heap H locs → ∀ (ls : Array Slot), lv_has ls 4 [(0, .ref (za Z 210)), (1, .int p0)] → W p l e rm_X0_sendAll s m args below meth c H locs 0 0 (MQ below (xQv E (zD Z) vwCl 211 (za Z) (tX Z) (tysX Z) res) args s 0 0 (ws_A 211 (za Z))) (F0 m 0 ls []) := by
  have C0 := C
  obtain ⟨hx, hb, hr, hlocks, hml, hown, hts, hE, hJ, hK⟩ := C0
  intro σ p0  h H locs hP hS ls hl
  unfold m_X0_sendAll_0 at h
  refine lv_iconst (v := 0) hx hb dX0_sendAll_0 (by decide) ?_
  refine lv_istore_n (lv' := [(2, .int 0), (0, .ref (za Z 210)), (1, .int p0)]) hx hb dX0_sendAll_1 rfl hl (by decide) rfl (fun ls hl => ?_)
  exact kb_X0_sendAll_2 Z    C   FV σ p0 0 h H locs hP hS ls (lv_sub hl [1, 2, 0] rfl)
def m_X0_sendAll   (σ : SG) (p0 : Int32) : Option (Unit × SG) := m_X0_sendAll_0   σ p0
set_option maxHeartbeats 4000000 in
set_option maxRecDepth 100000 in
theorem k_X0_sendAll (l : Launch) {E : EF} (Z : ZT)    (σ : SG) (p0 : Int32) {res : Unit × SG} (h : m_X0_sendAll   σ p0 = some res) : Met l yX0_sendAll wsX0_sendAll rm_X0_sendAll (va_Pc [.ref (za Z 210), .int p0] (wx E (zD Z) vwCl 211 (za Z) (tX Z) (tysX Z) σ)) (xQv E (zD Z) vwCl 211 (za Z) (tX Z) (tysX Z) res) 0 0 (ws_A 211 (za Z)) := by
  refine Met.ofW (cc := cX0_sendAll) (maxL := 4) (ret := none) (by decide) rfl ?_
  intro p e s m args below meth c s₁ B hml hv
  obtain ⟨rfl, hE, hJ, hP, hK⟩ := hv
  have hl := lv_entry ([.ref (za Z 210), .int p0]) (n := 4) (Nat.le_of_ble_eq_true rfl)
  rw [lg_entry_eq]
  generalize (lg_sl ([.ref (za Z 210), .int p0]) ++ List.replicate (4 - (lg_sl ([.ref (za Z 210), .int p0])).length) Slot.unset).toArray = ls at hl ⊢
  exact kb_X0_sendAll_0 Z    ⟨B.exec, B.bytes, B.returns, B.notSynchronized, hml, findClass_of_methodNamed B.named, atoms_spec (ws := wsX0_sendAll) B.pre, hE, hJ, hK⟩ σ p0 h s.heap [] hP va_S.rf ls hl
/-! TuneSearch$Carrier.leastCost([I)J -/
abbrev rm_X0_leastCost : Room := { frames := 4, cells := 0, slots := 0, locals := 93 }
theorem in_X0_leastCost_X0 : ∀ w ∈ wsX00, w ∈ wsX0_leastCost := by decide +kernel
theorem in_X0_leastCost_X3 : ∀ w ∈ wsX30, w ∈ wsX0_leastCost := by decide +kernel
def m_X0_leastCost_70_s   (c55 : SG → Int64 → Int32 → Option (Int64 × SG)) (c70 : SG → Int64 → Int32 → Int32 → Option (Int64 × SG)) (σ : SG) (l2 : Int64) (l4 : Int32) (l5 : Int32) : Option (Int64 × SG) :=
  if (σ.1 (208 + 1) 3) ≤ l5 then (lS (l4 + 1) (fun v15 => c55 σ l2 v15)) else (gB (inB l4 24) (gB (inB l5 24) (gB (inB l4 24) (gB (inB l5 24) (lS (l2 + (((σ.1 (95 + l4.toNatClampNeg) l5.toNatClampNeg).toInt64) * ((σ.1 (119 + l4.toNatClampNeg) l5.toNatClampNeg).toInt64))) (fun v23 => lS (l5 + 1) (fun v25 => c70 σ v23 l4 v25)))))))
def m_X0_leastCost_70   (c55 : SG → Int64 → Int32 → Option (Int64 × SG)) : Nat → SG → Int64 → Int32 → Int32 → Option (Int64 × SG)
  | 0, _, _, _, _ => none
  | n + 1, σ, l2, l4, l5 => m_X0_leastCost_70_s   c55 (m_X0_leastCost_70   c55 n) σ l2 l4 l5
set_option maxHeartbeats 4000000 in
set_option maxRecDepth 100000 in
theorem kb_X0_leastCost_70 {p : Program} {l : Launch} {e : Env} {s : State} {m : MethodId} {args : Array Value} {below : List Frame} {meth : Method} {c : Code} {E : EF} (Z : ZT)    (C : cy p s m args meth c cX0_leastCost (some .long) 6 RX0 wsX0_leastCost E (zD Z) vwCl 211 (za Z) (tysX Z)) {res : Int64 × SG} {c55 : SG → Int64 → Int32 → Option (Int64 × SG)} (hc55 : ∀ (σ : SG) (l2 : Int64) (l4 : Int32) , c55 σ l2 l4 = some res → ∀ (H : Heap) (locs : List Loc), ws_P (zD Z) vwCl 211 (za Z) (tX Z) σ H → va_S (ws_A 211 (za Z)) s.heap H locs → ∀ (ls : Array Slot), lv_has ls 6 [(0, .ref (za Z 210)), (2, .long l2), (4, .int l4)] → W p l e rm_X0_leastCost s m args below meth c H locs 0 0 (MQ below (xQl E (zD Z) vwCl 211 (za Z) (tX Z) (tysX Z) res) args s 0 0 (ws_A 211 (za Z))) (F0 m 55 ls [])) : ∀ (n : Nat) (σ : SG) (l2 : Int64) (l4 : Int32) (l5 : Int32) , m_X0_leastCost_70   c55 n σ l2 l4 l5 = some res → ∀ (H : Heap) (locs : List Loc), ws_P (zD Z) vwCl 211 (za Z) (tX Z) σ H → va_S (ws_A 211 (za Z)) s.heap H locs → ∀ (ls : Array Slot), lv_has ls 6 [(0, .ref (za Z 210)), (2, .long l2), (4, .int l4), (5, .int l5)] → W p l e rm_X0_leastCost s m args below meth c H locs 0 0 (MQ below (xQl E (zD Z) vwCl 211 (za Z) (tX Z) (tysX Z) res) args s 0 0 (ws_A 211 (za Z))) (F0 m 70 ls []) := by
  have C0 := C
  obtain ⟨hx, hb, hr, hlocks, hml, hown, hts, hE, hJ, hK⟩ := C0
  intro n
  induction n with
  | zero =>
    intro σ l2 l4 l5  h
    cases h
  | succ n ih =>
    intro σ l2 l4 l5  h H locs hP hS ls hl
    have hc70 : ∀ (σ : SG) (l2 : Int64) (l4 : Int32) (l5 : Int32) , m_X0_leastCost_70   c55 n σ l2 l4 l5 = some res → ∀ (H : Heap) (locs : List Loc), ws_P (zD Z) vwCl 211 (za Z) (tX Z) σ H → va_S (ws_A 211 (za Z)) s.heap H locs → ∀ (ls : Array Slot), lv_has ls 6 [(0, .ref (za Z 210)), (2, .long l2), (4, .int l4), (5, .int l5)] → W p l e rm_X0_leastCost s m args below meth c H locs 0 0 (MQ below (xQl E (zD Z) vwCl 211 (za Z) (tX Z) (tysX Z) res) args s 0 0 (ws_A 211 (za Z))) (F0 m 70 ls []) := ih
    have h : m_X0_leastCost_70_s   c55 (m_X0_leastCost_70   c55 n) σ l2 l4 l5 = some res := h
    unfold m_X0_leastCost_70_s at h
    refine lv_iload hx hb dX0_leastCost_70 (lv_at hl 3 rfl) ?_
    refine lv_aload_n hx hb dX0_leastCost_72 rfl (lv_at hl 0 rfl) ?_
    refine wr_get (C := RX0) (T := TX0) (N := 11) hx hb hts (in_X0_leastCost_X0) hown hK hP (k := 210) (by decide) ((tX_Carrier Z) _ _ _) rfl 1 (by decide) (hts (.fieldLink RX0 20 "TuneSearch$Carrier" "takers" "LTuneSearch$Load;") (by decide +kernel)) (fun _ h9 => h9) rfl dX0_leastCost_73 ?_
    refine wr_get (C := RX3) (T := TX3) (N := 5) hx hb hts (in_X0_leastCost_X3) hown hK hP (k := (208 + 1)) (by omega) ((tX_Load Z 1 (by decide)) _ _ _) rfl 3 (by decide) (hts (.fieldLink RX0 66 "TuneSearch$Load" "count" "I") (by decide +kernel)) (fun _ h9 => h9) rfl dX0_leastCost_76 ?_
    refine lv_icmp_ge (tgt := 114) hx hb dX0_leastCost_79 (by decide) (fun q14 => ?_) (fun q14 => ?_)
    · have h := if_p h q14
      obtain ⟨v15, e16, h⟩ := lS_e h
      refine lv_iinc (v := v15) (lv' := [(4, .int v15), (0, .ref (za Z 210)), (2, .long l2), (5, .int l5)]) hx hb dX0_leastCost_114 hl (k := 2) rfl (by rw [e16]; rfl) (by decide) rfl (fun ls hl => ?_)
      refine lv_goto (tgt := 55) hx hb dX0_leastCost_117 (by decide) ?_
      exact hc55 σ l2 v15 h H locs hP hS ls (lv_sub hl [1, 2, 0] rfl)
    · have h := if_n h q14
      refine lv_lload_n hx hb dX0_leastCost_82 rfl (lv_at hl 1 rfl) ?_
      refine lv_aload_n hx hb dX0_leastCost_83 rfl (lv_at hl 0 rfl) ?_
      refine wr_get (C := RX0) (T := TX0) (N := 11) hx hb hts (in_X0_leastCost_X0) hown hK hP (k := 210) (by decide) ((tX_Carrier Z) _ _ _) rfl 2 (by decide) (hts (.fieldLink RX0 25 "TuneSearch$Carrier" "unitCosts" "[[I") (by decide +kernel)) (fun _ h9 => h9) rfl dX0_leastCost_84 ?_
      refine lv_iload hx hb dX0_leastCost_87 (lv_at hl 2 rfl) ?_
      obtain ⟨b17, h⟩ := gB_e h
      have hi18 := inB_lt b17
      refine wr_aald hx hb hK hP (k := 153) (by decide) 5 rfl ((tX_unitCostsO Z) _ _ _) rfl b17 (row_at hi18) dX0_leastCost_89 ?_
      refine lv_iload hx hb dX0_leastCost_90 (lv_at hl 3 rfl) ?_
      obtain ⟨b19, h⟩ := gB_e h
      refine wr_iald hx hb hK hP (k := (95 + l4.toNatClampNeg)) (by omega) 0 ((tX_unitCosts Z l4.toNatClampNeg hi18) _ _ _) rfl b19 dX0_leastCost_92 ?_
      refine lv_i2l hx hb dX0_leastCost_93 rfl ?_
      refine lv_aload_n hx hb dX0_leastCost_94 rfl (lv_at hl 0 rfl) ?_
      refine wr_get (C := RX0) (T := TX0) (N := 11) hx hb hts (in_X0_leastCost_X0) hown hK hP (k := 210) (by decide) ((tX_Carrier Z) _ _ _) rfl 3 (by decide) (hts (.fieldLink RX0 28 "TuneSearch$Carrier" "sent" "[[I") (by decide +kernel)) (fun _ h9 => h9) rfl dX0_leastCost_95 ?_
      refine lv_iload hx hb dX0_leastCost_98 (lv_at hl 2 rfl) ?_
      obtain ⟨b20, h⟩ := gB_e h
      have hi21 := inB_lt b20
      refine wr_aald hx hb hK hP (k := 154) (by decide) 5 rfl ((tX_sentO Z) _ _ _) rfl b20 (row_at hi21) dX0_leastCost_100 ?_
      refine lv_iload hx hb dX0_leastCost_101 (lv_at hl 3 rfl) ?_
      obtain ⟨b22, h⟩ := gB_e h
      refine wr_iald hx hb hK hP (k := (119 + l4.toNatClampNeg)) (by omega) 0 ((tX_sent Z l4.toNatClampNeg hi21) _ _ _) rfl b22 dX0_leastCost_103 ?_
      refine lv_i2l hx hb dX0_leastCost_104 rfl ?_
      refine lv_lmul hx hb dX0_leastCost_105 ?_
      refine lv_ladd hx hb dX0_leastCost_106 ?_
      refine lv_topl (fun v23 e24 => ?_)
      have h := lS_u h e24
      refine lv_lstore_n (lv' := [(2, .long v23), (0, .ref (za Z 210)), (4, .int l4), (5, .int l5)]) hx hb dX0_leastCost_107 rfl hl (by decide) rfl (fun ls hl => ?_)
      obtain ⟨v25, e26, h⟩ := lS_e h
      refine lv_iinc (v := v25) (lv' := [(5, .int v25), (2, .long v23), (0, .ref (za Z 210)), (4, .int l4)]) hx hb dX0_leastCost_108 hl (k := 3) rfl (by rw [e26]; rfl) (by decide) rfl (fun ls hl => ?_)
      refine lv_goto (tgt := 70) hx hb dX0_leastCost_111 (by decide) ?_
      exact hc70 σ v23 l4 v25 h H locs hP hS ls (lv_sub hl [2, 1, 3, 0] rfl)
def m_X0_leastCost_55_s    (c55 : SG → Int64 → Int32 → Option (Int64 × SG)) (σ : SG) (l2 : Int64) (l4 : Int32) : Option (Int64 × SG) :=
  if (σ.1 (208 + 0) 3) ≤ l4 then (some (l2, σ)) else (m_X0_leastCost_70   c55 FV σ l2 l4 0)
def m_X0_leastCost_55    : Nat → SG → Int64 → Int32 → Option (Int64 × SG)
  | 0, _, _, _ => none
  | n + 1, σ, l2, l4 => m_X0_leastCost_55_s    (m_X0_leastCost_55    n) σ l2 l4
set_option maxHeartbeats 4000000 in
set_option maxRecDepth 100000 in
theorem kb_X0_leastCost_55 {p : Program} {l : Launch} {e : Env} {s : State} {m : MethodId} {args : Array Value} {below : List Frame} {meth : Method} {c : Code} {E : EF} (Z : ZT)    (C : cy p s m args meth c cX0_leastCost (some .long) 6 RX0 wsX0_leastCost E (zD Z) vwCl 211 (za Z) (tysX Z)) {res : Int64 × SG}   : ∀ (n : Nat) (σ : SG) (l2 : Int64) (l4 : Int32) , m_X0_leastCost_55    n σ l2 l4 = some res → ∀ (H : Heap) (locs : List Loc), ws_P (zD Z) vwCl 211 (za Z) (tX Z) σ H → va_S (ws_A 211 (za Z)) s.heap H locs → ∀ (ls : Array Slot), lv_has ls 6 [(0, .ref (za Z 210)), (2, .long l2), (4, .int l4)] → W p l e rm_X0_leastCost s m args below meth c H locs 0 0 (MQ below (xQl E (zD Z) vwCl 211 (za Z) (tX Z) (tysX Z) res) args s 0 0 (ws_A 211 (za Z))) (F0 m 55 ls []) := by
  have C0 := C
  obtain ⟨hx, hb, hr, hlocks, hml, hown, hts, hE, hJ, hK⟩ := C0
  intro n
  induction n with
  | zero =>
    intro σ l2 l4  h
    cases h
  | succ n ih =>
    intro σ l2 l4  h H locs hP hS ls hl
    have hc55 : ∀ (σ : SG) (l2 : Int64) (l4 : Int32) , m_X0_leastCost_55    n σ l2 l4 = some res → ∀ (H : Heap) (locs : List Loc), ws_P (zD Z) vwCl 211 (za Z) (tX Z) σ H → va_S (ws_A 211 (za Z)) s.heap H locs → ∀ (ls : Array Slot), lv_has ls 6 [(0, .ref (za Z 210)), (2, .long l2), (4, .int l4)] → W p l e rm_X0_leastCost s m args below meth c H locs 0 0 (MQ below (xQl E (zD Z) vwCl 211 (za Z) (tX Z) (tysX Z) res) args s 0 0 (ws_A 211 (za Z))) (F0 m 55 ls []) := ih
    have h : m_X0_leastCost_55_s    (m_X0_leastCost_55    n) σ l2 l4 = some res := h
    unfold m_X0_leastCost_55_s at h
    refine lv_iload hx hb dX0_leastCost_55 (lv_at hl 2 rfl) ?_
    refine lv_aload_n hx hb dX0_leastCost_57 rfl (lv_at hl 0 rfl) ?_
    refine wr_get (C := RX0) (T := TX0) (N := 11) hx hb hts (in_X0_leastCost_X0) hown hK hP (k := 210) (by decide) ((tX_Carrier Z) _ _ _) rfl 0 (by decide) (hts (.fieldLink RX0 14 "TuneSearch$Carrier" "givers" "LTuneSearch$Load;") (by decide +kernel)) (fun _ h9 => h9) rfl dX0_leastCost_58 ?_
    refine wr_get (C := RX3) (T := TX3) (N := 5) hx hb hts (in_X0_leastCost_X3) hown hK hP (k := (208 + 0)) (by omega) ((tX_Load Z 0 (by decide)) _ _ _) rfl 3 (by decide) (hts (.fieldLink RX0 66 "TuneSearch$Load" "count" "I") (by decide +kernel)) (fun _ h9 => h9) rfl dX0_leastCost_61 ?_
    refine lv_icmp_ge (tgt := 120) hx hb dX0_leastCost_64 (by decide) (fun q13 => ?_) (fun q13 => ?_)
    · have h := if_p h q13
      refine lv_lload_n hx hb dX0_leastCost_120 rfl (lv_at hl 1 rfl) ?_
      exact xr_lret hx hb hr hlocks hE hJ hK hP hS h dX0_leastCost_121
    · have h := if_n h q13
      refine lv_iconst (v := 0) hx hb dX0_leastCost_67 (by decide) ?_
      refine lv_istore (lv' := [(5, .int 0), (0, .ref (za Z 210)), (2, .long l2), (4, .int l4)]) hx hb dX0_leastCost_68 hl (by decide) rfl (fun ls hl => ?_)
      exact kb_X0_leastCost_70 Z    C  hc55 FV σ l2 l4 0 h H locs hP hS ls (lv_sub hl [1, 2, 3, 0] rfl)
def m_X0_leastCost_7_s    (c7 : SG → Int32 → Option (Int64 × SG)) (σ : SG) (l2 : Int32) : Option (Int64 × SG) :=
  if (σ.1 (208 + 0) 3) ≤ l2 then (gB (inB 7 8) (lS (((σ.1 18 (7 : Int32).toNatClampNeg).toInt64) * (((σ.1 (208 + 1) 4) - (σ.1 (208 + 0) 4)).toInt64)) (fun v6 => m_X0_leastCost_55    FV σ v6 0))) else (bi (m_X0_sendAll  σ l2) (fun v8 σ9 => lS (l2 + 1) (fun v11 => c7 σ9 v11)))
def m_X0_leastCost_7    : Nat → SG → Int32 → Option (Int64 × SG)
  | 0, _, _ => none
  | n + 1, σ, l2 => m_X0_leastCost_7_s    (m_X0_leastCost_7    n) σ l2
set_option maxHeartbeats 4000000 in
set_option maxRecDepth 100000 in
theorem kb_X0_leastCost_7 {p : Program} {l : Launch} {e : Env} {s : State} {m : MethodId} {args : Array Value} {below : List Frame} {meth : Method} {c : Code} {E : EF} (Z : ZT)    (C : cy p s m args meth c cX0_leastCost (some .long) 6 RX0 wsX0_leastCost E (zD Z) vwCl 211 (za Z) (tysX Z)) {res : Int64 × SG}   : ∀ (n : Nat) (σ : SG) (l2 : Int32) , m_X0_leastCost_7    n σ l2 = some res → ∀ (H : Heap) (locs : List Loc), ws_P (zD Z) vwCl 211 (za Z) (tX Z) σ H → va_S (ws_A 211 (za Z)) s.heap H locs → ∀ (ls : Array Slot), lv_has ls 6 [(0, .ref (za Z 210)), (1, .ref (za Z 18)), (2, .int l2)] → W p l e rm_X0_leastCost s m args below meth c H locs 0 0 (MQ below (xQl E (zD Z) vwCl 211 (za Z) (tX Z) (tysX Z) res) args s 0 0 (ws_A 211 (za Z))) (F0 m 7 ls []) := by
  have C0 := C
  obtain ⟨hx, hb, hr, hlocks, hml, hown, hts, hE, hJ, hK⟩ := C0
  intro n
  induction n with
  | zero =>
    intro σ l2  h
    cases h
  | succ n ih =>
    intro σ l2  h H locs hP hS ls hl
    have hc7 : ∀ (σ : SG) (l2 : Int32) , m_X0_leastCost_7    n σ l2 = some res → ∀ (H : Heap) (locs : List Loc), ws_P (zD Z) vwCl 211 (za Z) (tX Z) σ H → va_S (ws_A 211 (za Z)) s.heap H locs → ∀ (ls : Array Slot), lv_has ls 6 [(0, .ref (za Z 210)), (1, .ref (za Z 18)), (2, .int l2)] → W p l e rm_X0_leastCost s m args below meth c H locs 0 0 (MQ below (xQl E (zD Z) vwCl 211 (za Z) (tX Z) (tysX Z) res) args s 0 0 (ws_A 211 (za Z))) (F0 m 7 ls []) := ih
    have h : m_X0_leastCost_7_s    (m_X0_leastCost_7    n) σ l2 = some res := h
    unfold m_X0_leastCost_7_s at h
    refine lv_iload_n hx hb dX0_leastCost_7 rfl (lv_at hl 2 rfl) ?_
    refine lv_aload_n hx hb dX0_leastCost_8 rfl (lv_at hl 0 rfl) ?_
    refine wr_get (C := RX0) (T := TX0) (N := 11) hx hb hts (in_X0_leastCost_X0) hown hK hP (k := 210) (by decide) ((tX_Carrier Z) _ _ _) rfl 0 (by decide) (hts (.fieldLink RX0 14 "TuneSearch$Carrier" "givers" "LTuneSearch$Load;") (by decide +kernel)) (fun _ h9 => h9) rfl dX0_leastCost_9 ?_
    refine wr_get (C := RX3) (T := TX3) (N := 5) hx hb hts (in_X0_leastCost_X3) hown hK hP (k := (208 + 0)) (by omega) ((tX_Load Z 0 (by decide)) _ _ _) rfl 3 (by decide) (hts (.fieldLink RX0 66 "TuneSearch$Load" "count" "I") (by decide +kernel)) (fun _ h9 => h9) rfl dX0_leastCost_12 ?_
    refine lv_icmp_ge (tgt := 29) hx hb dX0_leastCost_15 (by decide) (fun q4 => ?_) (fun q4 => ?_)
    · have h := if_p h q4
      refine lv_aload_n hx hb dX0_leastCost_29 rfl (lv_at hl 1 rfl) ?_
      refine lv_bipush (v := 7) hx hb dX0_leastCost_30 (by decide) ?_
      obtain ⟨b5, h⟩ := gB_e h
      refine wr_iald hx hb hK hP (k := 18) (by decide) 0 ((tX_I Z 18 (by decide)) _ _ _) rfl b5 dX0_leastCost_32 ?_
      refine lv_i2l hx hb dX0_leastCost_33 rfl ?_
      refine lv_aload_n hx hb dX0_leastCost_34 rfl (lv_at hl 0 rfl) ?_
      refine wr_get (C := RX0) (T := TX0) (N := 11) hx hb hts (in_X0_leastCost_X0) hown hK hP (k := 210) (by decide) ((tX_Carrier Z) _ _ _) rfl 1 (by decide) (hts (.fieldLink RX0 20 "TuneSearch$Carrier" "takers" "LTuneSearch$Load;") (by decide +kernel)) (fun _ h9 => h9) rfl dX0_leastCost_35 ?_
      refine wr_get (C := RX3) (T := TX3) (N := 5) hx hb hts (in_X0_leastCost_X3) hown hK hP (k := (208 + 1)) (by omega) ((tX_Load Z 1 (by decide)) _ _ _) rfl 4 (by decide) (hts (.fieldLink RX0 58 "TuneSearch$Load" "units" "I") (by decide +kernel)) (fun _ h9 => h9) rfl dX0_leastCost_38 ?_
      refine lv_aload_n hx hb dX0_leastCost_41 rfl (lv_at hl 0 rfl) ?_
      refine wr_get (C := RX0) (T := TX0) (N := 11) hx hb hts (in_X0_leastCost_X0) hown hK hP (k := 210) (by decide) ((tX_Carrier Z) _ _ _) rfl 0 (by decide) (hts (.fieldLink RX0 14 "TuneSearch$Carrier" "givers" "LTuneSearch$Load;") (by decide +kernel)) (fun _ h9 => h9) rfl dX0_leastCost_42 ?_
      refine wr_get (C := RX3) (T := TX3) (N := 5) hx hb hts (in_X0_leastCost_X3) hown hK hP (k := (208 + 0)) (by omega) ((tX_Load Z 0 (by decide)) _ _ _) rfl 4 (by decide) (hts (.fieldLink RX0 58 "TuneSearch$Load" "units" "I") (by decide +kernel)) (fun _ h9 => h9) rfl dX0_leastCost_45 ?_
      refine lv_isub hx hb dX0_leastCost_48 ?_
      refine lv_i2l hx hb dX0_leastCost_49 rfl ?_
      refine lv_lmul hx hb dX0_leastCost_50 ?_
      refine lv_topl (fun v6 e7 => ?_)
      have h := lS_u h e7
      refine lv_lstore_n (lv' := [(2, .long v6), (0, .ref (za Z 210)), (1, .ref (za Z 18))]) hx hb dX0_leastCost_51 rfl hl (by decide) rfl (fun ls hl => ?_)
      refine lv_iconst (v := 0) hx hb dX0_leastCost_52 (by decide) ?_
      refine lv_istore (lv' := [(4, .int 0), (2, .long v6), (0, .ref (za Z 210)), (1, .ref (za Z 18))]) hx hb dX0_leastCost_53 hl (by decide) rfl (fun ls hl => ?_)
      exact kb_X0_leastCost_55 Z    C   FV σ v6 0 h H locs hP hS ls (lv_sub hl [2, 1, 0] rfl)
    · have h := if_n h q4
      refine lv_aload_n hx hb dX0_leastCost_18 rfl (lv_at hl 0 rfl) ?_
      refine lv_iload_n hx hb dX0_leastCost_19 rfl (lv_at hl 2 rfl) ?_
      obtain ⟨v8, σ9, hm10, h⟩ := bi_e h
      refine xr_callv (res := (v8, σ9)) (va_runV (As := [.int l2]) (rest := []) ⟨hx, hb, hml, hown, hts⟩ (k_X0_sendAll l Z   σ l2 hm10) (cwV 1 hts gX0_leastCost_X0_sendAll rfl rfl rfl (by decide +kernel) ⟨Nat.le_of_ble_eq_true rfl, Nat.le_of_ble_eq_true rfl⟩) ⟨wx_blind, wr_recv hK hP (k := 210) (by decide) ((tX_Carrier Z) _ _ _) rfl, fun U hU hW => ⟨rfl, wx_at hE hJ hP hK hS hU hW⟩⟩ rfl rfl hl.1 rfl (lv_room (Nat.le_of_ble_eq_true rfl)) dX0_leastCost_20 ⟨Nat.le_of_ble_eq_true rfl, Nat.le_of_ble_eq_true rfl⟩) hS (fun H locs hP hS => ?_)
      have hP : ws_P (zD Z) vwCl 211 (za Z) (tX Z) σ9 H := hP
      obtain ⟨v11, e12, h⟩ := lS_e h
      refine lv_iinc (v := v11) (lv' := [(2, .int v11), (0, .ref (za Z 210)), (1, .ref (za Z 18))]) hx hb dX0_leastCost_23 hl (k := 2) rfl (by rw [e12]; rfl) (by decide) rfl (fun ls hl => ?_)
      refine lv_goto (tgt := 7) hx hb dX0_leastCost_26 (by decide) ?_
      exact hc7 σ9 v11 h H locs hP hS ls (lv_sub hl [1, 2, 0] rfl)
def m_X0_leastCost_0    (σ : SG)  : Option (Int64 × SG) :=
  bi (m_X0_begin  σ ) (fun v1 σ2 => m_X0_leastCost_7    FV σ2 0)
set_option maxHeartbeats 4000000 in
set_option maxRecDepth 100000 in
theorem kb_X0_leastCost_0 {p : Program} {l : Launch} {e : Env} {s : State} {m : MethodId} {args : Array Value} {below : List Frame} {meth : Method} {c : Code} {E : EF} (Z : ZT)    (C : cy p s m args meth c cX0_leastCost (some .long) 6 RX0 wsX0_leastCost E (zD Z) vwCl 211 (za Z) (tysX Z)) {res : Int64 × SG}   : ∀ (σ : SG)  , m_X0_leastCost_0    σ  = some res → ∀ (H : Heap) (locs : List Loc), ws_P (zD Z) vwCl 211 (za Z) (tX Z) σ H → va_S (ws_A 211 (za Z)) s.heap H locs → ∀ (ls : Array Slot), lv_has ls 6 [(0, .ref (za Z 210)), (1, .ref (za Z 18))] → W p l e rm_X0_leastCost s m args below meth c H locs 0 0 (MQ below (xQl E (zD Z) vwCl 211 (za Z) (tX Z) (tysX Z) res) args s 0 0 (ws_A 211 (za Z))) (F0 m 0 ls []) := by
  have C0 := C
  obtain ⟨hx, hb, hr, hlocks, hml, hown, hts, hE, hJ, hK⟩ := C0
  intro σ   h H locs hP hS ls hl
  unfold m_X0_leastCost_0 at h
  refine lv_aload_n hx hb dX0_leastCost_0 rfl (lv_at hl 0 rfl) ?_
  refine lv_aload_n hx hb dX0_leastCost_1 rfl (lv_at hl 1 rfl) ?_
  obtain ⟨v1, σ2, hm3, h⟩ := bi_e h
  refine xr_callv (res := (v1, σ2)) (va_runV (As := [.ref (za Z 18)]) (rest := []) ⟨hx, hb, hml, hown, hts⟩ (k_X0_begin l Z   σ  hm3) (cwV 1 hts gX0_leastCost_X0_begin rfl rfl rfl (by decide +kernel) ⟨Nat.le_of_ble_eq_true rfl, Nat.le_of_ble_eq_true rfl⟩) ⟨wx_blind, wr_recv hK hP (k := 210) (by decide) ((tX_Carrier Z) _ _ _) rfl, fun U hU hW => ⟨rfl, wx_at hE hJ hP hK hS hU hW⟩⟩ rfl rfl hl.1 rfl (lv_room (Nat.le_of_ble_eq_true rfl)) dX0_leastCost_2 ⟨Nat.le_of_ble_eq_true rfl, Nat.le_of_ble_eq_true rfl⟩) hS (fun H locs hP hS => ?_)
  have hP : ws_P (zD Z) vwCl 211 (za Z) (tX Z) σ2 H := hP
  refine lv_iconst (v := 0) hx hb dX0_leastCost_5 (by decide) ?_
  refine lv_istore_n (lv' := [(2, .int 0), (0, .ref (za Z 210)), (1, .ref (za Z 18))]) hx hb dX0_leastCost_6 rfl hl (by decide) rfl (fun ls hl => ?_)
  exact kb_X0_leastCost_7 Z    C   FV σ2 0 h H locs hP hS ls (lv_sub hl [1, 2, 0] rfl)
def m_X0_leastCost   (σ : SG)  : Option (Int64 × SG) := m_X0_leastCost_0   σ 
set_option maxHeartbeats 4000000 in
set_option maxRecDepth 100000 in
theorem k_X0_leastCost (l : Launch) {E : EF} (Z : ZT)    (σ : SG)  {res : Int64 × SG} (h : m_X0_leastCost   σ  = some res) : Met l yX0_leastCost wsX0_leastCost rm_X0_leastCost (va_Pc [.ref (za Z 210), .ref (za Z 18)] (wx E (zD Z) vwCl 211 (za Z) (tX Z) (tysX Z) σ)) (xQl E (zD Z) vwCl 211 (za Z) (tX Z) (tysX Z) res) 0 0 (ws_A 211 (za Z)) := by
  refine Met.ofW (cc := cX0_leastCost) (maxL := 6) (ret := (some .long)) (by decide) rfl ?_
  intro p e s m args below meth c s₁ B hml hv
  obtain ⟨rfl, hE, hJ, hP, hK⟩ := hv
  have hl := lv_entry ([.ref (za Z 210), .ref (za Z 18)]) (n := 6) (Nat.le_of_ble_eq_true rfl)
  rw [lg_entry_eq]
  generalize (lg_sl ([.ref (za Z 210), .ref (za Z 18)]) ++ List.replicate (6 - (lg_sl ([.ref (za Z 210), .ref (za Z 18)])).length) Slot.unset).toArray = ls at hl ⊢
  exact kb_X0_leastCost_0 Z    ⟨B.exec, B.bytes, B.returns, B.notSynchronized, hml, findClass_of_methodNamed B.named, atoms_spec (ws := wsX0_leastCost) B.pre, hE, hJ, hK⟩ σ  h s.heap [] hP va_S.rf ls hl
