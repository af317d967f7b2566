/-! TuneSearch.found(II)I -/
abbrev rm_X11_found : Room := { frames := 6, cells := 1, slots := 6, locals := 100 }
theorem ag_X11_found_143 : ∀ w ∈ (vx_atS RX11 143 "java/lang/IndexOutOfBoundsException" ["java/lang/RuntimeException", "java/lang/Exception"]).filter (fun w => !goodWord w), w ∈ ([.declares (Bundle.initS "java/lang/RuntimeException"), .declares (Bundle.initS "java/lang/Exception"), .declares (Bundle.initS Bundle.tN), .castable "java/lang/IndexOutOfBoundsException" "java/lang/IndexOutOfBoundsException"] : List Cond) := by decide +kernel
theorem at_X11_found_143 {args : Array Value} {s : State} (hts : ∀ w ∈ wsX11_found, w.before args s = true) (hB : EB s) : ∀ w ∈ vx_atS RX11 143 "java/lang/IndexOutOfBoundsException" ["java/lang/RuntimeException", "java/lang/Exception"], w.before args s = true := vx_hat (fun w hw => hts w (List.mem_cons_of_mem _ (List.mem_append_right _ hw))) ag_X11_found_143 (vx_c (va_Nw.use rfl hB.1) (vx_c (va_Nw.use rfl hB.2.1) (vx_c (va_Nw.use rfl hB.2.2.1) (vx_c (va_Nw.use rfl hB.2.2.2.1) vx_n))))
theorem in_X11_found_X1 : ∀ w ∈ wsX10, w ∈ wsX11_found := by decide +kernel
theorem in_X11_found_X11 : ∀ w ∈ wsX110, w ∈ wsX11_found := by decide +kernel
def m_X11_found_24    (σ : SG)  : Option ((Int32 ⊕ Bool) × SG) :=
  some (.inr true, σ)
set_option maxHeartbeats 4000000 in
set_option maxRecDepth 100000 in
theorem kb_X11_found_24 {p : Program} {l : Launch} {e : Env} {s : State} {m : MethodId} {args : Array Value} {below : List Frame} {meth : Method} {c : Code} (Z : ZT)    (hst : l.stackTraces = false) (hnt : ∀ x ∈ c.exceptionTable.toList, False) (C : cy p s m args meth c cX11_found (some .int) 3 RX11 wsX11_found (EX Z) (zD Z) vwCl 211 (za Z) (tysX Z)) {res : (Int32 ⊕ Bool) × SG}   : ∀ (σ : SG)  , m_X11_found_24    σ  = some res → ∀ (H : Heap) (locs : List Loc), ws_P (zD Z) vwCl 211 (za Z) (tX Z) σ H → va_S (ws_A 211 (za Z)) s.heap H locs → ∀ (ls : Array Slot), lv_has ls 3 [] → W p l e rm_X11_found s m args below meth c H locs 0 0 (vx_MQ below (yQi (EX Z) (zD Z) vwCl 211 (za Z) (tX Z) (tysX Z) res) (yX (zD Z) vwCl 211 (za Z) (tX Z) res) args s 1 6 (ws_A 211 (za Z))) (F0 m 24 ls []) := by
  have C0 := C
  obtain ⟨hx, hb, hr, hlocks, hml, hown, hts, hE, hJ, hK⟩ := C0
  intro σ   h H locs hP hS ls hl
  unfold m_X11_found_24 at h
  exact vx_throwS (names := ["java/lang/RuntimeException", "java/lang/Exception"]) (sa := za Z 1000) hx hb hst hown rfl (by decide +kernel) (hts (.classLink RX11 139 "java/lang/IndexOutOfBoundsException") (by decide +kernel)) (hts (.initialized "java/lang/IndexOutOfBoundsException") (by decide +kernel)) hE.2.1 (at_X11_found_143 hts hE.2.2.2.2.2.2.2) (by decide +kernel) hE.2.2.2.2.1 hE.2.2.2.2.2.1 hS (by rw [hml]; exact hl.1) dX11_found_24 dX11_found_27 dX11_found_28 dX11_found_30 dX11_found_33 (fun x hx => (hnt x hx).elim) (Nat.le_of_ble_eq_true rfl) (Nat.le_of_ble_eq_true rfl) (Nat.le_of_ble_eq_true rfl) (Nat.le_of_ble_eq_true rfl) hlocks (fun t hvm hz hk => ⟨(true, σ), h, ⟨rfl, ws_keepH hP hk⟩, Nat.le_trans hS.1 hz, fun q h1 h2 => (hk q (Nat.lt_of_lt_of_le h1 hS.1)).trans (hS.2.1 q h1 h2)⟩) hS.2.2 (by decide) (by decide)
def m_X11_found_0    (σ : SG) (p0 : Int32) (p1 : Int32) : Option ((Int32 ⊕ Bool) × SG) :=
  if p0 < 0 then (m_X11_found_24    σ ) else (if (σ.1 207 0) ≤ p0 then (m_X11_found_24    σ ) else (if p1 < 0 then (m_X11_found_24    σ ) else (if p1 < 5 then (bi (m_X1_look  σ p0 p1) (fun v5 σ6 => some (.inl v5, σ6))) else (m_X11_found_24    σ ))))
set_option maxHeartbeats 4000000 in
set_option maxRecDepth 100000 in
theorem kb_X11_found_0 {p : Program} {l : Launch} {e : Env} {s : State} {m : MethodId} {args : Array Value} {below : List Frame} {meth : Method} {c : Code} (Z : ZT)    (hst : l.stackTraces = false) (hnt : ∀ x ∈ c.exceptionTable.toList, False) (C : cy p s m args meth c cX11_found (some .int) 3 RX11 wsX11_found (EX Z) (zD Z) vwCl 211 (za Z) (tysX Z)) {res : (Int32 ⊕ Bool) × SG}   : ∀ (σ : SG) (p0 : Int32) (p1 : Int32) , m_X11_found_0    σ p0 p1 = some res → ∀ (H : Heap) (locs : List Loc), ws_P (zD Z) vwCl 211 (za Z) (tX Z) σ H → va_S (ws_A 211 (za Z)) s.heap H locs → ∀ (ls : Array Slot), lv_has ls 3 [(0, .ref (za Z 155)), (1, .int p0), (2, .int p1)] → W p l e rm_X11_found s m args below meth c H locs 0 0 (vx_MQ below (yQi (EX Z) (zD Z) vwCl 211 (za Z) (tX Z) (tysX Z) res) (yX (zD Z) vwCl 211 (za Z) (tX Z) res) args s 1 6 (ws_A 211 (za Z))) (F0 m 0 ls []) := by
  have C0 := C
  obtain ⟨hx, hb, hr, hlocks, hml, hown, hts, hE, hJ, hK⟩ := C0
  intro σ p0 p1  h H locs hP hS ls hl
  unfold m_X11_found_0 at h
  refine lv_iload_n hx hb dX11_found_0 rfl (lv_at hl 1 rfl) ?_
  refine lv_if_lt (tgt := 24) hx hb dX11_found_1 (by decide) (fun q1 => ?_) (fun q1 => ?_)
  · have h := if_p h q1
    exact kb_X11_found_24 Z    hst hnt C   σ  h H locs hP hS ls (lv_sub hl [] rfl)
  · have h := if_n h q1
    refine lv_iload_n hx hb dX11_found_4 rfl (lv_at hl 1 rfl) ?_
    refine lv_aload_n hx hb dX11_found_5 rfl (lv_at hl 0 rfl) ?_
    refine wr_get (C := RX11) (T := TX11) (N := 16) hx hb hts (in_X11_found_X11) hown hK hP (k := 155) (by decide) ((tX_TuneSearch Z) _ _ _) rfl 12 (by decide) (hts (.fieldLink RX11 73 "TuneSearch" "finds" "LTuneSearch$Finds;") (by decide +kernel)) (fun _ h9 => h9) rfl dX11_found_6 ?_
    refine wr_get (C := RX1) (T := TX1) (N := 3) hx hb hts (in_X11_found_X1) hown hK hP (k := 207) (by decide) ((tX_Finds Z) _ _ _) rfl 0 (by decide) (hts (.fieldLink RX11 127 "TuneSearch$Finds" "count" "I") (by decide +kernel)) (fun _ h9 => h9) rfl dX11_found_9 ?_
    refine lv_icmp_ge (tgt := 24) hx hb dX11_found_12 (by decide) (fun q2 => ?_) (fun q2 => ?_)
    · have h := if_p h q2
      exact kb_X11_found_24 Z    hst hnt C   σ  h H locs hP hS ls (lv_sub hl [] rfl)
    · have h := if_n h q2
      refine lv_iload_n hx hb dX11_found_15 rfl (lv_at hl 2 rfl) ?_
      refine lv_if_lt (tgt := 24) hx hb dX11_found_16 (by decide) (fun q3 => ?_) (fun q3 => ?_)
      · have h := if_p h q3
        exact kb_X11_found_24 Z    hst hnt C   σ  h H locs hP hS ls (lv_sub hl [] rfl)
      · have h := if_n h q3
        refine lv_iload_n hx hb dX11_found_19 rfl (lv_at hl 2 rfl) ?_
        refine lv_iconst (v := 5) hx hb dX11_found_20 (by decide) ?_
        refine lv_icmp_lt (tgt := 34) hx hb dX11_found_21 (by decide) (fun q4 => ?_) (fun q4 => ?_)
        · have h := if_p h q4
          refine lv_aload_n hx hb dX11_found_34 rfl (lv_at hl 0 rfl) ?_
          refine wr_get (C := RX11) (T := TX11) (N := 16) hx hb hts (in_X11_found_X11) hown hK hP (k := 155) (by decide) ((tX_TuneSearch Z) _ _ _) rfl 12 (by decide) (hts (.fieldLink RX11 73 "TuneSearch" "finds" "LTuneSearch$Finds;") (by decide +kernel)) (fun _ h9 => h9) rfl dX11_found_35 ?_
          refine lv_iload_n hx hb dX11_found_38 rfl (lv_at hl 1 rfl) ?_
          refine lv_iload_n hx hb dX11_found_39 rfl (lv_at hl 2 rfl) ?_
          obtain ⟨v5, σ6, hm7, h⟩ := bi_e h
          refine xr_calli (res := (v5, σ6)) (va_runV (As := [.int p0, .int p1]) (rest := []) ⟨hx, hb, hml, hown, hts⟩ (k_X1_look l Z   σ p0 p1 hm7) (cwV 2 hts gX11_found_X1_look rfl rfl rfl (by decide +kernel) ⟨Nat.le_of_ble_eq_true rfl, Nat.le_of_ble_eq_true rfl⟩) ⟨wx_blind, wr_recv hK hP (k := 207) (by decide) ((tX_Finds Z) _ _ _) rfl, fun U hU hW => ⟨rfl, wx_at hE hJ hP hK hS hU hW⟩⟩ rfl rfl hl.1 rfl (lv_room (Nat.le_of_ble_eq_true rfl)) dX11_found_40 ⟨Nat.le_of_ble_eq_true rfl, Nat.le_of_ble_eq_true rfl⟩) hS (fun H locs hP hS => ?_)
          have hP : ws_P (zD Z) vwCl 211 (za Z) (tX Z) σ6 H := hP
          refine W.widen (k := 1) (n := 6) (by decide) (by decide) ?_
          exact yr_iret hx hb hr hlocks hE hJ hK hP hS h dX11_found_43
        · have h := if_n h q4
          exact kb_X11_found_24 Z    hst hnt C   σ  h H locs hP hS ls (lv_sub hl [] rfl)
def m_X11_found   (σ : SG) (p0 : Int32) (p1 : Int32) : Option ((Int32 ⊕ Bool) × SG) := m_X11_found_0   σ p0 p1
set_option maxHeartbeats 4000000 in
set_option maxRecDepth 100000 in
theorem k_X11_found (l : Launch) (Z : ZT)    (σ : SG) (p0 : Int32) (p1 : Int32) {res : (Int32 ⊕ Bool) × SG} (hst : l.stackTraces = false) (h : m_X11_found   σ p0 p1 = some res) : vx_Met l yX11_found wsX11_found rm_X11_found (va_Pc [.ref (za Z 155), .int p0, .int p1] (wx (EX Z) (zD Z) vwCl 211 (za Z) (tX Z) (tysX Z) σ)) (yQi (EX Z) (zD Z) vwCl 211 (za Z) (tX Z) (tysX Z) res) (yX (zD Z) vwCl 211 (za Z) (tX Z) res) 1 6 (ws_A 211 (za Z)) := by
  refine vx_ofW (cc := cX11_found) (maxL := 3) (ret := (some .int)) (by decide) rfl ?_
  intro p e s m args below meth c s₁ B hml hnt hv
  obtain ⟨rfl, hE, hJ, hP, hK⟩ := hv
  have hl := lv_entry ([.ref (za Z 155), .int p0, .int p1]) (n := 3) (Nat.le_of_ble_eq_true rfl)
  rw [lg_entry_eq]
  generalize (lg_sl ([.ref (za Z 155), .int p0, .int p1]) ++ List.replicate (3 - (lg_sl ([.ref (za Z 155), .int p0, .int p1])).length) Slot.unset).toArray = ls at hl ⊢
  exact kb_X11_found_0 Z    hst hnt ⟨B.exec, B.bytes, B.returns, B.notSynchronized, hml, findClass_of_methodNamed B.named, atoms_spec (ws := wsX11_found) B.pre, hE, hJ, hK⟩ σ p0 p1 h s.heap [] hP va_S.rf ls hl
/-! TuneSearch.share(II)J -/
abbrev rm_X11_share : Room := { frames := 6, cells := 1, slots := 6, locals := 118 }
theorem ag_X11_share_143 : ∀ w ∈ (vx_atS RX11 143 "java/lang/IndexOutOfBoundsException" ["java/lang/RuntimeException", "java/lang/Exception"]).filter (fun w => !goodWord w), w ∈ ([.declares (Bundle.initS "java/lang/RuntimeException"), .declares (Bundle.initS "java/lang/Exception"), .declares (Bundle.initS Bundle.tN), .castable "java/lang/IndexOutOfBoundsException" "java/lang/IndexOutOfBoundsException"] : List Cond) := by decide +kernel
theorem at_X11_share_143 {args : Array Value} {s : State} (hts : ∀ w ∈ wsX11_share, w.before args s = true) (hB : EB s) : ∀ w ∈ vx_atS RX11 143 "java/lang/IndexOutOfBoundsException" ["java/lang/RuntimeException", "java/lang/Exception"], w.before args s = true := vx_hat (fun w hw => hts w (List.mem_cons_of_mem _ (List.mem_append_left _ (List.mem_append_right _ hw)))) ag_X11_share_143 (vx_c (va_Nw.use rfl hB.1) (vx_c (va_Nw.use rfl hB.2.1) (vx_c (va_Nw.use rfl hB.2.2.1) (vx_c (va_Nw.use rfl hB.2.2.2.1) vx_n))))
theorem ag_X11_share_175 : ∀ w ∈ (vx_atS RX11 175 "java/lang/ArithmeticException" ["java/lang/RuntimeException", "java/lang/Exception"]).filter (fun w => !goodWord w), w ∈ ([.declares (Bundle.initS "java/lang/RuntimeException"), .declares (Bundle.initS "java/lang/Exception"), .declares (Bundle.initS Bundle.tN), .castable "java/lang/ArithmeticException" "java/lang/ArithmeticException"] : List Cond) := by decide +kernel
theorem at_X11_share_175 {args : Array Value} {s : State} (hts : ∀ w ∈ wsX11_share, w.before args s = true) (hB : EB s) : ∀ w ∈ vx_atS RX11 175 "java/lang/ArithmeticException" ["java/lang/RuntimeException", "java/lang/Exception"], w.before args s = true := vx_hat (fun w hw => hts w (List.mem_cons_of_mem _ (List.mem_append_right _ hw))) ag_X11_share_175 (vx_c (va_Nw.use rfl hB.1) (vx_c (va_Nw.use rfl hB.2.1) (vx_c (va_Nw.use rfl hB.2.2.1) (vx_c (va_Nw.use rfl hB.2.2.2.2) vx_n))))
theorem in_X11_share_X11 : ∀ w ∈ wsX110, w ∈ wsX11_share := by decide +kernel
def m_X11_share_16    (σ : SG)  : Option ((Int64 ⊕ Bool) × SG) :=
  some (.inr true, σ)
set_option maxHeartbeats 4000000 in
set_option maxRecDepth 100000 in
theorem kb_X11_share_16 {p : Program} {l : Launch} {e : Env} {s : State} {m : MethodId} {args : Array Value} {below : List Frame} {meth : Method} {c : Code} (Z : ZT)    (hst : l.stackTraces = false) (hnt : ∀ x ∈ c.exceptionTable.toList, False) (C : cy p s m args meth c cX11_share (some .long) 4 RX11 wsX11_share (EX Z) (zD Z) vwCl 211 (za Z) (tysX Z)) {res : (Int64 ⊕ Bool) × SG}   : ∀ (σ : SG)  , m_X11_share_16    σ  = some res → ∀ (H : Heap) (locs : List Loc), ws_P (zD Z) vwCl 211 (za Z) (tX Z) σ H → va_S (ws_A 211 (za Z)) s.heap H locs → ∀ (ls : Array Slot), lv_has ls 4 [] → W p l e rm_X11_share s m args below meth c H locs 0 0 (vx_MQ below (yQl (EX Z) (zD Z) vwCl 211 (za Z) (tX Z) (tysX Z) res) (yX (zD Z) vwCl 211 (za Z) (tX Z) res) args s 1 6 (ws_A 211 (za Z))) (F0 m 16 ls []) := by
  have C0 := C
  obtain ⟨hx, hb, hr, hlocks, hml, hown, hts, hE, hJ, hK⟩ := C0
  intro σ   h H locs hP hS ls hl
  unfold m_X11_share_16 at h
  exact vx_throwS (names := ["java/lang/RuntimeException", "java/lang/Exception"]) (sa := za Z 1001) hx hb hst hown rfl (by decide +kernel) (hts (.classLink RX11 139 "java/lang/IndexOutOfBoundsException") (by decide +kernel)) (hts (.initialized "java/lang/IndexOutOfBoundsException") (by decide +kernel)) hE.2.2.1 (at_X11_share_143 hts hE.2.2.2.2.2.2.2) (by decide +kernel) hE.2.2.2.2.1 hE.2.2.2.2.2.1 hS (by rw [hml]; exact hl.1) dX11_share_16 dX11_share_19 dX11_share_20 dX11_share_22 dX11_share_25 (fun x hx => (hnt x hx).elim) (Nat.le_of_ble_eq_true rfl) (Nat.le_of_ble_eq_true rfl) (Nat.le_of_ble_eq_true rfl) (Nat.le_of_ble_eq_true rfl) hlocks (fun t hvm hz hk => ⟨(true, σ), h, ⟨rfl, ws_keepH hP hk⟩, Nat.le_trans hS.1 hz, fun q h1 h2 => (hk q (Nat.lt_of_lt_of_le h1 hS.1)).trans (hS.2.1 q h1 h2)⟩) hS.2.2 (by decide) (by decide)
def m_X11_share_0    (σ : SG) (p0 : Int32) (p1 : Int32) : Option ((Int64 ⊕ Bool) × SG) :=
  bi (m_X11_isTune  σ p0) (fun v1 σ2 => if v1 = 0 then (m_X11_share_16    σ2 ) else (bi (m_X11_isTune  σ2 p1) (fun v5 σ6 => if ¬ v5 = 0 then (gB (inB p0 8) (gB (inB p1 8) (bi (m_X0_load p0.toNatClampNeg p1.toNatClampNeg σ6 ) (fun v15 σ16 => bi (m_X0_unitsGoing  σ16 ) (fun v18 σ19 => if ¬ v18 = 0 then (bi (m_X0_leastCost  σ19 ) (fun v22 σ23 => gB (nzL v18.toInt64) (some (.inl ((1000 * v22) / v18.toInt64), σ23)))) else (some (.inr false, σ19))))))) else (m_X11_share_16    σ6 ))))
set_option maxHeartbeats 4000000 in
set_option maxRecDepth 100000 in
theorem kb_X11_share_0 {p : Program} {l : Launch} {e : Env} {s : State} {m : MethodId} {args : Array Value} {below : List Frame} {meth : Method} {c : Code} (Z : ZT)    (hst : l.stackTraces = false) (hnt : ∀ x ∈ c.exceptionTable.toList, False) (C : cy p s m args meth c cX11_share (some .long) 4 RX11 wsX11_share (EX Z) (zD Z) vwCl 211 (za Z) (tysX Z)) {res : (Int64 ⊕ Bool) × SG}   : ∀ (σ : SG) (p0 : Int32) (p1 : Int32) , m_X11_share_0    σ p0 p1 = some res → ∀ (H : Heap) (locs : List Loc), ws_P (zD Z) vwCl 211 (za Z) (tX Z) σ H → va_S (ws_A 211 (za Z)) s.heap H locs → ∀ (ls : Array Slot), lv_has ls 4 [(0, .ref (za Z 155)), (1, .int p0), (2, .int p1)] → W p l e rm_X11_share s m args below meth c H locs 0 0 (vx_MQ below (yQl (EX Z) (zD Z) vwCl 211 (za Z) (tX Z) (tysX Z) res) (yX (zD Z) vwCl 211 (za Z) (tX Z) res) args s 1 6 (ws_A 211 (za Z))) (F0 m 0 ls []) := by
  have C0 := C
  obtain ⟨hx, hb, hr, hlocks, hml, hown, hts, hE, hJ, hK⟩ := C0
  intro σ p0 p1  h H locs hP hS ls hl
  unfold m_X11_share_0 at h
  refine lv_aload_n hx hb dX11_share_0 rfl (lv_at hl 0 rfl) ?_
  refine lv_iload_n hx hb dX11_share_1 rfl (lv_at hl 1 rfl) ?_
  obtain ⟨v1, σ2, hm3, h⟩ := bi_e h
  refine xr_calli (res := (v1, σ2)) (va_runV (As := [.int p0]) (rest := []) ⟨hx, hb, hml, hown, hts⟩ (k_X11_isTune l Z   σ p0 hm3) (cwV 1 hts gX11_share_X11_isTune rfl rfl rfl (by decide +kernel) ⟨Nat.le_of_ble_eq_true rfl, Nat.le_of_ble_eq_true rfl⟩) ⟨wx_blind, wr_recv hK hP (k := 155) (by decide) ((tX_TuneSearch Z) _ _ _) rfl, fun U hU hW => ⟨rfl, wx_at hE hJ hP hK hS hU hW⟩⟩ rfl rfl hl.1 rfl (lv_room (Nat.le_of_ble_eq_true rfl)) dX11_share_2 ⟨Nat.le_of_ble_eq_true rfl, Nat.le_of_ble_eq_true rfl⟩) hS (fun H locs hP hS => ?_)
  have hP : ws_P (zD Z) vwCl 211 (za Z) (tX Z) σ2 H := hP
  refine lv_if_eq (tgt := 16) hx hb dX11_share_5 (by decide) (fun q4 => ?_) (fun q4 => ?_)
  · have h := if_p h q4
    exact kb_X11_share_16 Z    hst hnt C   σ2  h H locs hP hS ls (lv_sub hl [] rfl)
  · have h := if_n h q4
    refine lv_aload_n hx hb dX11_share_8 rfl (lv_at hl 0 rfl) ?_
    refine lv_iload_n hx hb dX11_share_9 rfl (lv_at hl 2 rfl) ?_
    obtain ⟨v5, σ6, hm7, h⟩ := bi_e h
    refine xr_calli (res := (v5, σ6)) (va_runV (As := [.int p1]) (rest := []) ⟨hx, hb, hml, hown, hts⟩ (k_X11_isTune l Z   σ2 p1 hm7) (cwV 1 hts gX11_share_X11_isTune rfl rfl rfl (by decide +kernel) ⟨Nat.le_of_ble_eq_true rfl, Nat.le_of_ble_eq_true rfl⟩) ⟨wx_blind, wr_recv hK hP (k := 155) (by decide) ((tX_TuneSearch Z) _ _ _) rfl, fun U hU hW => ⟨rfl, wx_at hE hJ hP hK hS hU hW⟩⟩ rfl rfl hl.1 rfl (lv_room (Nat.le_of_ble_eq_true rfl)) dX11_share_10 ⟨Nat.le_of_ble_eq_true rfl, Nat.le_of_ble_eq_true rfl⟩) hS (fun H locs hP hS => ?_)
    have hP : ws_P (zD Z) vwCl 211 (za Z) (tX Z) σ6 H := hP
    refine lv_if_ne (tgt := 26) hx hb dX11_share_13 (by decide) (fun q8 => ?_) (fun q8 => ?_)
    · have h := if_p h q8
      refine lv_aload_n hx hb dX11_share_26 rfl (lv_at hl 0 rfl) ?_
      refine wr_get (C := RX11) (T := TX11) (N := 16) hx hb hts (in_X11_share_X11) hown hK hP (k := 155) (by decide) ((tX_TuneSearch Z) _ _ _) rfl 13 (by decide) (hts (.fieldLink RX11 80 "TuneSearch" "carrier" "LTuneSearch$Carrier;") (by decide +kernel)) (fun _ h9 => h9) rfl dX11_share_27 ?_
      refine lv_aload_n hx hb dX11_share_30 rfl (lv_at hl 0 rfl) ?_
      refine wr_get (C := RX11) (T := TX11) (N := 16) hx hb hts (in_X11_share_X11) hown hK hP (k := 155) (by decide) ((tX_TuneSearch Z) _ _ _) rfl 0 (by decide) (hts (.fieldLink RX11 11 "TuneSearch" "tunes" "[LTuneSearch$NoteRow;") (by decide +kernel)) (fun _ h9 => h9) rfl dX11_share_31 ?_
      refine lv_iload_n hx hb dX11_share_34 rfl (lv_at hl 1 rfl) ?_
      obtain ⟨b9, h⟩ := gB_e h
      have hi10 := inB_lt b9
      have hi11 : p0.toNatClampNeg < 9 := Nat.lt_of_lt_of_le hi10 (by decide)
      refine wr_aald hx hb hK hP (k := 148) (by decide) 3 rfl ((tX_tunes Z) _ _ _) rfl b9 (row_at hi10) dX11_share_35 ?_
      refine lv_aload_n hx hb dX11_share_36 rfl (lv_at hl 0 rfl) ?_
      refine wr_get (C := RX11) (T := TX11) (N := 16) hx hb hts (in_X11_share_X11) hown hK hP (k := 155) (by decide) ((tX_TuneSearch Z) _ _ _) rfl 0 (by decide) (hts (.fieldLink RX11 11 "TuneSearch" "tunes" "[LTuneSearch$NoteRow;") (by decide +kernel)) (fun _ h9 => h9) rfl dX11_share_37 ?_
      refine lv_iload_n hx hb dX11_share_40 rfl (lv_at hl 2 rfl) ?_
      obtain ⟨b12, h⟩ := gB_e h
      have hi13 := inB_lt b12
      have hi14 : p1.toNatClampNeg < 9 := Nat.lt_of_lt_of_le hi13 (by decide)
      refine wr_aald hx hb hK hP (k := 148) (by decide) 3 rfl ((tX_tunes Z) _ _ _) rfl b12 (row_at hi13) dX11_share_41 ?_
      obtain ⟨v15, σ16, hm17, h⟩ := bi_e h
      refine xr_callv (res := (v15, σ16)) (va_runV (As := [.ref (za Z (156 + p0.toNatClampNeg)), .ref (za Z (156 + p1.toNatClampNeg))]) (rest := []) ⟨hx, hb, hml, hown, hts⟩ (k_X0_load l Z p0.toNatClampNeg p1.toNatClampNeg hi11 hi14 σ6  hm17) (cwV 2 hts gX11_share_X0_load rfl rfl rfl (by decide +kernel) ⟨Nat.le_of_ble_eq_true rfl, Nat.le_of_ble_eq_true rfl⟩) ⟨wx_blind, wr_recv hK hP (k := 210) (by decide) ((tX_Carrier Z) _ _ _) rfl, fun U hU hW => ⟨rfl, wx_at hE hJ hP hK hS hU hW⟩⟩ rfl rfl hl.1 rfl (lv_room (Nat.le_of_ble_eq_true rfl)) dX11_share_42 ⟨Nat.le_of_ble_eq_true rfl, Nat.le_of_ble_eq_true rfl⟩) hS (fun H locs hP hS => ?_)
      have hP : ws_P (zD Z) vwCl 211 (za Z) (tX Z) σ16 H := hP
      refine lv_aload_n hx hb dX11_share_45 rfl (lv_at hl 0 rfl) ?_
      refine wr_get (C := RX11) (T := TX11) (N := 16) hx hb hts (in_X11_share_X11) hown hK hP (k := 155) (by decide) ((tX_TuneSearch Z) _ _ _) rfl 13 (by decide) (hts (.fieldLink RX11 80 "TuneSearch" "carrier" "LTuneSearch$Carrier;") (by decide +kernel)) (fun _ h9 => h9) rfl dX11_share_46 ?_
      obtain ⟨v18, σ19, hm20, h⟩ := bi_e h
      refine xr_calli (res := (v18, σ19)) (va_runV (As := []) (rest := []) ⟨hx, hb, hml, hown, hts⟩ (k_X0_unitsGoing l Z   σ16  hm20) (cwV 0 hts gX11_share_X0_unitsGoing rfl rfl rfl (by decide +kernel) ⟨Nat.le_of_ble_eq_true rfl, Nat.le_of_ble_eq_true rfl⟩) ⟨wx_blind, wr_recv hK hP (k := 210) (by decide) ((tX_Carrier Z) _ _ _) rfl, fun U hU hW => ⟨rfl, wx_at hE hJ hP hK hS hU hW⟩⟩ rfl rfl hl.1 rfl (lv_room (Nat.le_of_ble_eq_true rfl)) dX11_share_49 ⟨Nat.le_of_ble_eq_true rfl, Nat.le_of_ble_eq_true rfl⟩) hS (fun H locs hP hS => ?_)
      have hP : ws_P (zD Z) vwCl 211 (za Z) (tX Z) σ19 H := hP
      refine lv_istore_n (lv' := [(3, .int v18), (0, .ref (za Z 155)), (1, .int p0), (2, .int p1)]) hx hb dX11_share_52 rfl hl (by decide) rfl (fun ls hl => ?_)
      refine lv_iload_n hx hb dX11_share_53 rfl (lv_at hl 0 rfl) ?_
      refine lv_if_ne (tgt := 67) hx hb dX11_share_54 (by decide) (fun q21 => ?_) (fun q21 => ?_)
      · have h := if_p h q21
        refine lv_ldc2 (v := 1000) hx hb hown (hts (.constantLong RX11 176 1000) (by decide +kernel)) dX11_share_67 ?_
        refine lv_aload_n hx hb dX11_share_70 rfl (lv_at hl 1 rfl) ?_
        refine wr_get (C := RX11) (T := TX11) (N := 16) hx hb hts (in_X11_share_X11) hown hK hP (k := 155) (by decide) ((tX_TuneSearch Z) _ _ _) rfl 13 (by decide) (hts (.fieldLink RX11 80 "TuneSearch" "carrier" "LTuneSearch$Carrier;") (by decide +kernel)) (fun _ h9 => h9) rfl dX11_share_71 ?_
        refine lv_aload_n hx hb dX11_share_74 rfl (lv_at hl 1 rfl) ?_
        refine wr_get (C := RX11) (T := TX11) (N := 16) hx hb hts (in_X11_share_X11) hown hK hP (k := 155) (by decide) ((tX_TuneSearch Z) _ _ _) rfl 3 (by decide) (hts (.fieldLink RX11 22 "TuneSearch" "prices" "[I") (by decide +kernel)) (fun _ h9 => h9) rfl dX11_share_75 ?_
        obtain ⟨v22, σ23, hm24, h⟩ := bi_e h
        refine xr_calll (res := (v22, σ23)) (va_runV (As := [.ref (za Z 18)]) (rest := [.long 1000]) ⟨hx, hb, hml, hown, hts⟩ (k_X0_leastCost l Z   σ19  hm24) (cwV 1 hts gX11_share_X0_leastCost rfl rfl rfl (by decide +kernel) ⟨Nat.le_of_ble_eq_true rfl, Nat.le_of_ble_eq_true rfl⟩) ⟨wx_blind, wr_recv hK hP (k := 210) (by decide) ((tX_Carrier Z) _ _ _) rfl, fun U hU hW => ⟨rfl, wx_at hE hJ hP hK hS hU hW⟩⟩ rfl rfl hl.1 rfl (lv_room (Nat.le_of_ble_eq_true rfl)) dX11_share_78 ⟨Nat.le_of_ble_eq_true rfl, Nat.le_of_ble_eq_true rfl⟩) hS (fun H locs hP hS => ?_)
        have hP : ws_P (zD Z) vwCl 211 (za Z) (tX Z) σ23 H := hP
        refine lv_lmul hx hb dX11_share_81 ?_
        refine lv_iload_n hx hb dX11_share_82 rfl (lv_at hl 0 rfl) ?_
        refine lv_i2l hx hb dX11_share_83 rfl ?_
        obtain ⟨b25, h⟩ := gB_e h
        refine lv_ldiv hx hb dX11_share_84 (nzL_e b25) ?_
        refine W.widen (k := 1) (n := 6) (by decide) (by decide) ?_
        exact yr_lret hx hb hr hlocks hE hJ hK hP hS h dX11_share_85
      · have h := if_n h (fun z => z q21)
        exact vx_throwS (names := ["java/lang/RuntimeException", "java/lang/Exception"]) (sa := za Z 1002) hx hb hst hown rfl (by decide +kernel) (hts (.classLink RX11 171 "java/lang/ArithmeticException") (by decide +kernel)) (hts (.initialized "java/lang/ArithmeticException") (by decide +kernel)) hE.2.2.2.1 (at_X11_share_175 hts hE.2.2.2.2.2.2.2) (by decide +kernel) hE.2.2.2.2.1 hE.2.2.2.2.2.1 hS (by rw [hml]; exact hl.1) dX11_share_57 dX11_share_60 dX11_share_61 dX11_share_63 dX11_share_66 (fun x hx => (hnt x hx).elim) (Nat.le_of_ble_eq_true rfl) (Nat.le_of_ble_eq_true rfl) (Nat.le_of_ble_eq_true rfl) (Nat.le_of_ble_eq_true rfl) hlocks (fun t hvm hz hk => ⟨(false, σ19), h, ⟨rfl, ws_keepH hP hk⟩, Nat.le_trans hS.1 hz, fun q h1 h2 => (hk q (Nat.lt_of_lt_of_le h1 hS.1)).trans (hS.2.1 q h1 h2)⟩) hS.2.2 (by decide) (by decide)
    · have h := if_n h (fun z => z q8)
      exact kb_X11_share_16 Z    hst hnt C   σ6  h H locs hP hS ls (lv_sub hl [] rfl)
def m_X11_share   (σ : SG) (p0 : Int32) (p1 : Int32) : Option ((Int64 ⊕ Bool) × SG) := m_X11_share_0   σ p0 p1
set_option maxHeartbeats 4000000 in
set_option maxRecDepth 100000 in
theorem k_X11_share (l : Launch) (Z : ZT)    (σ : SG) (p0 : Int32) (p1 : Int32) {res : (Int64 ⊕ Bool) × SG} (hst : l.stackTraces = false) (h : m_X11_share   σ p0 p1 = some res) : vx_Met l yX11_share wsX11_share rm_X11_share (va_Pc [.ref (za Z 155), .int p0, .int p1] (wx (EX Z) (zD Z) vwCl 211 (za Z) (tX Z) (tysX Z) σ)) (yQl (EX Z) (zD Z) vwCl 211 (za Z) (tX Z) (tysX Z) res) (yX (zD Z) vwCl 211 (za Z) (tX Z) res) 1 6 (ws_A 211 (za Z)) := by
  refine vx_ofW (cc := cX11_share) (maxL := 4) (ret := (some .long)) (by decide) rfl ?_
  intro p e s m args below meth c s₁ B hml hnt hv
  obtain ⟨rfl, hE, hJ, hP, hK⟩ := hv
  have hl := lv_entry ([.ref (za Z 155), .int p0, .int p1]) (n := 4) (Nat.le_of_ble_eq_true rfl)
  rw [lg_entry_eq]
  generalize (lg_sl ([.ref (za Z 155), .int p0, .int p1]) ++ List.replicate (4 - (lg_sl ([.ref (za Z 155), .int p0, .int p1])).length) Slot.unset).toArray = ls at hl ⊢
  exact kb_X11_share_0 Z    hst hnt ⟨B.exec, B.bytes, B.returns, B.notSynchronized, hml, findClass_of_methodNamed B.named, atoms_spec (ws := wsX11_share) B.pre, hE, hJ, hK⟩ σ p0 p1 h s.heap [] hP va_S.rf ls hl
