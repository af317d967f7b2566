/-! TuneSearchModel.pair(III)I -/
abbrev rm_X12_pair : Room := { frames := 1, cells := 0, slots := 0, locals := 21 }
theorem in_X12_pair_X12 : ∀ w ∈ wsX120, w ∈ wsX12_pair := by decide +kernel
def m_X12_pair_40    (σ : SG)  : Option (Int32 × SG) :=
  gB (inB 4 8) (some (σ.1 4 (4 : Int32).toNatClampNeg, σ))
set_option maxHeartbeats 4000000 in
set_option maxRecDepth 100000 in
theorem kb_X12_pair_40 {p : Program} {l : Launch} {e : Env} {s : State} {m : MethodId} {args : Array Value} {below : List Frame} {meth : Method} {c : Code} {E : EF} (Z : ZT)    (C : cy p s m args meth c cX12_pair (some .int) 6 RX12 wsX12_pair E (zD Z) vwCl 24 (za Z) (tysM Z)) {res : Int32 × SG}   : ∀ (σ : SG)  , m_X12_pair_40    σ  = some res → ∀ (H : Heap) (locs : List Loc), ws_P (zD Z) vwCl 24 (za Z) (tM Z) σ H → va_S (ws_A 24 (za Z)) s.heap H locs → ∀ (ls : Array Slot), lv_has ls 6 [(0, .ref (za Z 0))] → W p l e rm_X12_pair s m args below meth c H locs 0 0 (MQ below (xQi E (zD Z) vwCl 24 (za Z) (tM Z) (tysM Z) res) args s 0 0 (ws_A 24 (za Z))) (F0 m 40 ls []) := by
  have C0 := C
  obtain ⟨hx, hb, hr, hlocks, hml, hown, hts, hE, hJ, hK⟩ := C0
  intro σ   h H locs hP hS ls hl
  unfold m_X12_pair_40 at h
  refine lv_aload_n hx hb dX12_pair_40 rfl (lv_at hl 0 rfl) ?_
  refine wr_get (C := RX12) (T := TX12) (N := 41) hx hb hts (in_X12_pair_X12) hown hK hP (k := 0) (by decide) ((tM_0 Z) _ _ _) rfl 5 (by decide) (hts (.fieldLink RX12 21 "TuneSearchModel" "prices" "[I") (by decide +kernel)) (fun _ h9 => h9) rfl dX12_pair_41 ?_
  refine lv_iconst (v := 4) hx hb dX12_pair_44 (by decide) ?_
  obtain ⟨b14, h⟩ := gB_e h
  refine wr_iald hx hb hK hP (k := 4) (by decide) 0 ((tM_4 Z) _ _ _) rfl b14 dX12_pair_45 ?_
  refine lv_goto (tgt := 66) hx hb dX12_pair_46 (by decide) ?_
  exact xr_iret hx hb hr hlocks hE hJ hK hP hS h dX12_pair_66
def m_X12_pair_30    (σ : SG) (l3 : Int32) (l4 : Int32) (l5 : Int32) : Option (Int32 × SG) :=
  if l4 < 0 then (m_X12_pair_40    σ ) else (if 0 ≤ l5 then (gB (inB 0 8) (lS (if 0 ≤ ((l4 + l3) - l5) then ((l4 + l3) - l5) else 0 - ((l4 + l3) - l5)) (fun v12 => some ((σ.1 4 (0 : Int32).toNatClampNeg) * v12, σ)))) else (m_X12_pair_40    σ ))
set_option maxHeartbeats 4000000 in
set_option maxRecDepth 100000 in
theorem kb_X12_pair_30 {p : Program} {l : Launch} {e : Env} {s : State} {m : MethodId} {args : Array Value} {below : List Frame} {meth : Method} {c : Code} {E : EF} (Z : ZT)    (C : cy p s m args meth c cX12_pair (some .int) 6 RX12 wsX12_pair E (zD Z) vwCl 24 (za Z) (tysM Z)) {res : Int32 × SG}   : ∀ (σ : SG) (l3 : Int32) (l4 : Int32) (l5 : Int32) , m_X12_pair_30    σ l3 l4 l5 = some res → ∀ (H : Heap) (locs : List Loc), ws_P (zD Z) vwCl 24 (za Z) (tM Z) σ H → va_S (ws_A 24 (za Z)) s.heap H locs → ∀ (ls : Array Slot), lv_has ls 6 [(0, .ref (za Z 0)), (3, .int l3), (4, .int l4), (5, .int l5)] → W p l e rm_X12_pair s m args below meth c H locs 0 0 (MQ below (xQi E (zD Z) vwCl 24 (za Z) (tM Z) (tysM Z) res) args s 0 0 (ws_A 24 (za Z))) (F0 m 30 ls []) := by
  have C0 := C
  obtain ⟨hx, hb, hr, hlocks, hml, hown, hts, hE, hJ, hK⟩ := C0
  intro σ l3 l4 l5  h H locs hP hS ls hl
  unfold m_X12_pair_30 at h
  refine lv_iload hx hb dX12_pair_30 (lv_at hl 2 rfl) ?_
  refine lv_if_lt (tgt := 40) hx hb dX12_pair_32 (by decide) (fun q9 => ?_) (fun q9 => ?_)
  · have h := if_p h q9
    exact kb_X12_pair_40 Z    C   σ  h H locs hP hS ls (lv_sub hl [0] rfl)
  · have h := if_n h q9
    refine lv_iload hx hb dX12_pair_35 (lv_at hl 3 rfl) ?_
    refine lv_if_ge (tgt := 49) hx hb dX12_pair_37 (by decide) (fun q10 => ?_) (fun q10 => ?_)
    · have h := if_p h q10
      refine lv_aload_n hx hb dX12_pair_49 rfl (lv_at hl 0 rfl) ?_
      refine wr_get (C := RX12) (T := TX12) (N := 41) hx hb hts (in_X12_pair_X12) hown hK hP (k := 0) (by decide) ((tM_0 Z) _ _ _) rfl 5 (by decide) (hts (.fieldLink RX12 21 "TuneSearchModel" "prices" "[I") (by decide +kernel)) (fun _ h9 => h9) rfl dX12_pair_50 ?_
      refine lv_iconst (v := 0) hx hb dX12_pair_53 (by decide) ?_
      obtain ⟨b11, h⟩ := gB_e h
      refine wr_iald hx hb hK hP (k := 4) (by decide) 0 ((tM_4 Z) _ _ _) rfl b11 dX12_pair_54 ?_
      refine lv_iload hx hb dX12_pair_55 (lv_at hl 2 rfl) ?_
      refine lv_iload_n hx hb dX12_pair_57 rfl (lv_at hl 1 rfl) ?_
      refine lv_iadd hx hb dX12_pair_58 ?_
      refine lv_iload hx hb dX12_pair_59 (lv_at hl 3 rfl) ?_
      refine lv_isub hx hb dX12_pair_61 ?_
      refine va_mabs hx hb (by rw [hml]; exact hl.1.symm) hown (hts (.methodLink RX12 220 Lib.Math.abs.name) (by decide +kernel)) (hts (.static Lib.Math.abs.name) (by decide +kernel)) (hts (.initialized "java/lang/Math") (by decide +kernel)) (hts (.code Lib.Math.abs.name Lib.Math.abs.code 1 (some .int)) (by decide +kernel)) (Nat.le_of_ble_eq_true rfl) (Nat.le_of_ble_eq_true rfl) (Nat.le_of_ble_eq_true rfl) (Nat.le_of_ble_eq_true rfl) dX12_pair_62 ?_
      refine lv_topi (fun v12 e13 => ?_)
      have h := lS_u h e13
      refine lv_imul hx hb dX12_pair_65 ?_
      exact xr_iret hx hb hr hlocks hE hJ hK hP hS h dX12_pair_66
    · have h := if_n h q10
      exact kb_X12_pair_40 Z    C   σ  h H locs hP hS ls (lv_sub hl [0] rfl)
def m_X12_pair_0    (σ : SG) (p0 : Int32) (p1 : Int32) (p2 : Int32) : Option (Int32 × SG) :=
  gB (inB p0 216) (lS (σ.1 1 p0.toNatClampNeg) (fun v2 => gB (inB p1 216) (lS (σ.1 1 p1.toNatClampNeg) (fun v5 => if 0 ≤ v2 then (m_X12_pair_30    σ p2 v2 v5) else (if 0 ≤ v5 then (m_X12_pair_30    σ p2 v2 v5) else (some (0, σ)))))))
set_option maxHeartbeats 4000000 in
set_option maxRecDepth 100000 in
theorem kb_X12_pair_0 {p : Program} {l : Launch} {e : Env} {s : State} {m : MethodId} {args : Array Value} {below : List Frame} {meth : Method} {c : Code} {E : EF} (Z : ZT)    (C : cy p s m args meth c cX12_pair (some .int) 6 RX12 wsX12_pair E (zD Z) vwCl 24 (za Z) (tysM Z)) {res : Int32 × SG}   : ∀ (σ : SG) (p0 : Int32) (p1 : Int32) (p2 : Int32) , m_X12_pair_0    σ p0 p1 p2 = some res → ∀ (H : Heap) (locs : List Loc), ws_P (zD Z) vwCl 24 (za Z) (tM Z) σ H → va_S (ws_A 24 (za Z)) s.heap H locs → ∀ (ls : Array Slot), lv_has ls 6 [(0, .ref (za Z 0)), (1, .int p0), (2, .int p1), (3, .int p2)] → W p l e rm_X12_pair s m args below meth c H locs 0 0 (MQ below (xQi E (zD Z) vwCl 24 (za Z) (tM Z) (tysM Z) res) args s 0 0 (ws_A 24 (za Z))) (F0 m 0 ls []) := by
  have C0 := C
  obtain ⟨hx, hb, hr, hlocks, hml, hown, hts, hE, hJ, hK⟩ := C0
  intro σ p0 p1 p2  h H locs hP hS ls hl
  unfold m_X12_pair_0 at h
  refine lv_aload_n hx hb dX12_pair_0 rfl (lv_at hl 0 rfl) ?_
  refine wr_get (C := RX12) (T := TX12) (N := 41) hx hb hts (in_X12_pair_X12) hown hK hP (k := 0) (by decide) ((tM_0 Z) _ _ _) rfl 1 (by decide) (hts (.fieldLink RX12 11 "TuneSearchModel" "pitch" "[I") (by decide +kernel)) (fun _ h9 => h9) rfl dX12_pair_1 ?_
  refine lv_iload_n hx hb dX12_pair_4 rfl (lv_at hl 1 rfl) ?_
  obtain ⟨b1, h⟩ := gB_e h
  refine wr_iald hx hb hK hP (k := 1) (by decide) 0 ((tM_1 Z) _ _ _) rfl b1 dX12_pair_5 ?_
  refine lv_topi (fun v2 e3 => ?_)
  have h := lS_u h e3
  refine lv_istore (lv' := [(4, .int v2), (0, .ref (za Z 0)), (1, .int p0), (2, .int p1), (3, .int p2)]) hx hb dX12_pair_6 hl (by decide) rfl (fun ls hl => ?_)
  refine lv_aload_n hx hb dX12_pair_8 rfl (lv_at hl 1 rfl) ?_
  refine wr_get (C := RX12) (T := TX12) (N := 41) hx hb hts (in_X12_pair_X12) hown hK hP (k := 0) (by decide) ((tM_0 Z) _ _ _) rfl 1 (by decide) (hts (.fieldLink RX12 11 "TuneSearchModel" "pitch" "[I") (by decide +kernel)) (fun _ h9 => h9) rfl dX12_pair_9 ?_
  refine lv_iload_n hx hb dX12_pair_12 rfl (lv_at hl 3 rfl) ?_
  obtain ⟨b4, h⟩ := gB_e h
  refine wr_iald hx hb hK hP (k := 1) (by decide) 0 ((tM_1 Z) _ _ _) rfl b4 dX12_pair_13 ?_
  refine lv_topi (fun v5 e6 => ?_)
  have h := lS_u h e6
  refine lv_istore (lv' := [(5, .int v5), (4, .int v2), (0, .ref (za Z 0)), (1, .int p0), (2, .int p1), (3, .int p2)]) hx hb dX12_pair_14 hl (by decide) rfl (fun ls hl => ?_)
  refine lv_iload hx hb dX12_pair_16 (lv_at hl 1 rfl) ?_
  refine lv_if_ge (tgt := 30) hx hb dX12_pair_18 (by decide) (fun q7 => ?_) (fun q7 => ?_)
  · have h := if_p h q7
    exact kb_X12_pair_30 Z    C   σ p2 v2 v5 h H locs hP hS ls (lv_sub hl [2, 5, 1, 0] rfl)
  · have h := if_n h q7
    refine lv_iload hx hb dX12_pair_21 (lv_at hl 0 rfl) ?_
    refine lv_if_ge (tgt := 30) hx hb dX12_pair_23 (by decide) (fun q8 => ?_) (fun q8 => ?_)
    · have h := if_p h q8
      exact kb_X12_pair_30 Z    C   σ p2 v2 v5 h H locs hP hS ls (lv_sub hl [2, 5, 1, 0] rfl)
    · have h := if_n h q8
      refine lv_iconst (v := 0) hx hb dX12_pair_26 (by decide) ?_
      refine lv_goto (tgt := 66) hx hb dX12_pair_27 (by decide) ?_
      exact xr_iret hx hb hr hlocks hE hJ hK hP hS h dX12_pair_66
def m_X12_pair   (σ : SG) (p0 : Int32) (p1 : Int32) (p2 : Int32) : Option (Int32 × SG) := m_X12_pair_0   σ p0 p1 p2
set_option maxHeartbeats 4000000 in
set_option maxRecDepth 100000 in
theorem k_X12_pair (l : Launch) {E : EF} (Z : ZT)    (σ : SG) (p0 : Int32) (p1 : Int32) (p2 : Int32) {res : Int32 × SG} (h : m_X12_pair   σ p0 p1 p2 = some res) : Met l yX12_pair wsX12_pair rm_X12_pair (va_Pc [.ref (za Z 0), .int p0, .int p1, .int p2] (wx E (zD Z) vwCl 24 (za Z) (tM Z) (tysM Z) σ)) (xQi E (zD Z) vwCl 24 (za Z) (tM Z) (tysM Z) res) 0 0 (ws_A 24 (za Z)) := by
  refine Met.ofW (cc := cX12_pair) (maxL := 6) (ret := (some .int)) (by decide) rfl ?_
  intro p e s m args below meth c s₁ B hml hv
  obtain ⟨rfl, hE, hJ, hP, hK⟩ := hv
  have hl := lv_entry ([.ref (za Z 0), .int p0, .int p1, .int p2]) (n := 6) (Nat.le_of_ble_eq_true rfl)
  rw [lg_entry_eq]
  generalize (lg_sl ([.ref (za Z 0), .int p0, .int p1, .int p2]) ++ List.replicate (6 - (lg_sl ([.ref (za Z 0), .int p0, .int p1, .int p2])).length) Slot.unset).toArray = ls at hl ⊢
  exact kb_X12_pair_0 Z    ⟨B.exec, B.bytes, B.returns, B.notSynchronized, hml, findClass_of_methodNamed B.named, atoms_spec (ws := wsX12_pair) B.pre, hE, hJ, hK⟩ σ p0 p1 p2 h s.heap [] hP va_S.rf ls hl
/-! TuneSearchModel.ways(IIIII)V -/
abbrev rm_X12_ways : Room := { frames := 2, cells := 0, slots := 0, locals := 46 }
theorem in_X12_ways_X12 : ∀ w ∈ wsX120, w ∈ wsX12_ways := by decide +kernel
def m_X12_ways_395   (c7 : SG → Int32 → Int32 → Int32 → Int32 → Int32 → Int32 → Int32 → Option (Unit × SG)) (c16 : SG → Int32 → Int32 → Int32 → Int32 → Int32 → Int32 → Int32 → Int32 → Option (Unit × SG)) (σ : SG) (l1 : Int32) (l2 : Int32) (l3 : Int32) (l4 : Int32) (l5 : Int32) (l6 : Int32) (l7 : Int32) (l8 : Int32) (l9 : Int32) : Option (Unit × SG) :=
  gB (inB ((l6 * l7) + l8) 625) (lS (sI σ 11 ((l6 * l7) + l8).toNatClampNeg l9) (fun σ60 => lS (l8 + (-1)) (fun v62 => c16 σ60 l1 l2 l3 l4 l5 l6 l7 v62)))
set_option maxHeartbeats 4000000 in
set_option maxRecDepth 100000 in
theorem kb_X12_ways_395 {p : Program} {l : Launch} {e : Env} {s : State} {m : MethodId} {args : Array Value} {below : List Frame} {meth : Method} {c : Code} {E : EF} (Z : ZT)    (C : cy p s m args meth c cX12_ways none 13 RX12 wsX12_ways E (zD Z) vwCl 24 (za Z) (tysM Z)) {res : Unit × SG} {c7 : SG → Int32 → Int32 → Int32 → Int32 → Int32 → Int32 → Int32 → Option (Unit × SG)} {c16 : SG → Int32 → Int32 → Int32 → Int32 → Int32 → Int32 → Int32 → Int32 → Option (Unit × SG)} (hc7 : ∀ (σ : SG) (l1 : Int32) (l2 : Int32) (l3 : Int32) (l4 : Int32) (l5 : Int32) (l6 : Int32) (l7 : Int32) , c7 σ l1 l2 l3 l4 l5 l6 l7 = some res → ∀ (H : Heap) (locs : List Loc), ws_P (zD Z) vwCl 24 (za Z) (tM Z) σ H → va_S (ws_A 24 (za Z)) s.heap H locs → ∀ (ls : Array Slot), lv_has ls 13 [(0, .ref (za Z 0)), (1, .int l1), (2, .int l2), (3, .int l3), (4, .int l4), (5, .int l5), (6, .int l6), (7, .int l7)] → W p l e rm_X12_ways s m args below meth c H locs 0 0 (MQ below (xQv E (zD Z) vwCl 24 (za Z) (tM Z) (tysM Z) res) args s 0 0 (ws_A 24 (za Z))) (F0 m 7 ls [])) (hc16 : ∀ (σ : SG) (l1 : Int32) (l2 : Int32) (l3 : Int32) (l4 : Int32) (l5 : Int32) (l6 : Int32) (l7 : Int32) (l8 : Int32) , c16 σ l1 l2 l3 l4 l5 l6 l7 l8 = some res → ∀ (H : Heap) (locs : List Loc), ws_P (zD Z) vwCl 24 (za Z) (tM Z) σ H → va_S (ws_A 24 (za Z)) s.heap H locs → ∀ (ls : Array Slot), lv_has ls 13 [(0, .ref (za Z 0)), (1, .int l1), (2, .int l2), (3, .int l3), (4, .int l4), (5, .int l5), (6, .int l6), (7, .int l7), (8, .int l8)] → W p l e rm_X12_ways s m args below meth c H locs 0 0 (MQ below (xQv E (zD Z) vwCl 24 (za Z) (tM Z) (tysM Z) res) args s 0 0 (ws_A 24 (za Z))) (F0 m 16 ls [])) : ∀ (σ : SG) (l1 : Int32) (l2 : Int32) (l3 : Int32) (l4 : Int32) (l5 : Int32) (l6 : Int32) (l7 : Int32) (l8 : Int32) (l9 : Int32) , m_X12_ways_395   c7 c16 σ l1 l2 l3 l4 l5 l6 l7 l8 l9 = some res → ∀ (H : Heap) (locs : List Loc), ws_P (zD Z) vwCl 24 (za Z) (tM Z) σ H → va_S (ws_A 24 (za Z)) s.heap H locs → ∀ (ls : Array Slot), lv_has ls 13 [(0, .ref (za Z 0)), (1, .int l1), (2, .int l2), (3, .int l3), (4, .int l4), (5, .int l5), (6, .int l6), (7, .int l7), (8, .int l8), (9, .int l9)] → W p l e rm_X12_ways s m args below meth c H locs 0 0 (MQ below (xQv E (zD Z) vwCl 24 (za Z) (tM Z) (tysM Z) res) args s 0 0 (ws_A 24 (za Z))) (F0 m 395 ls []) := by
  have C0 := C
  obtain ⟨hx, hb, hr, hlocks, hml, hown, hts, hE, hJ, hK⟩ := C0
  intro σ l1 l2 l3 l4 l5 l6 l7 l8 l9  h H locs hP hS ls hl
  unfold m_X12_ways_395 at h
  refine lv_aload_n hx hb dX12_ways_395 rfl (lv_at hl 0 rfl) ?_
  refine wr_get (C := RX12) (T := TX12) (N := 41) hx hb hts (in_X12_ways_X12) hown hK hP (k := 0) (by decide) ((tM_0 Z) _ _ _) rfl 26 (by decide) (hts (.fieldLink RX12 47 "TuneSearchModel" "table" "[I") (by decide +kernel)) (fun _ h9 => h9) rfl dX12_ways_396 ?_
  refine lv_iload hx hb dX12_ways_399 (lv_at hl 6 rfl) ?_
  refine lv_iload hx hb dX12_ways_401 (lv_at hl 7 rfl) ?_
  refine lv_imul hx hb dX12_ways_403 ?_
  refine lv_iload hx hb dX12_ways_404 (lv_at hl 8 rfl) ?_
  refine lv_iadd hx hb dX12_ways_406 ?_
  refine lv_iload hx hb dX12_ways_407 (lv_at hl 9 rfl) ?_
  obtain ⟨b59, h⟩ := gB_e h
  refine wr_iast hx hb hK hP hJ hS (k := 11) (by decide) 0 (tM_11 Z) rfl b59 dX12_ways_409 (fun H locs hP hS => ?_)
  obtain ⟨σ60, e61, h⟩ := lS_e h
  rw [← e61] at hP
  obtain ⟨v62, e63, h⟩ := lS_e h
  refine lv_iinc (v := v62) (lv' := [(8, .int v62), (0, .ref (za Z 0)), (1, .int l1), (2, .int l2), (3, .int l3), (4, .int l4), (5, .int l5), (6, .int l6), (7, .int l7), (9, .int l9)]) hx hb dX12_ways_410 hl (k := 8) rfl (by rw [e63]; rfl) (by decide) rfl (fun ls hl => ?_)
  refine lv_goto (tgt := 16) hx hb dX12_ways_413 (by decide) ?_
  exact hc16 σ60 l1 l2 l3 l4 l5 l6 l7 v62 h H locs hP hS ls (lv_sub hl [1, 2, 3, 4, 5, 6, 7, 8, 0] rfl)
def m_X12_ways_273_s   (c7 : SG → Int32 → Int32 → Int32 → Int32 → Int32 → Int32 → Int32 → Option (Unit × SG)) (c16 : SG → Int32 → Int32 → Int32 → Int32 → Int32 → Int32 → Int32 → Int32 → Option (Unit × SG)) (c273 : SG → Int32 → Int32 → Int32 → Int32 → Int32 → Int32 → Int32 → Int32 → Int32 → Int32 → Int32 → Int32 → Option (Unit × SG)) (σ : SG) (l1 : Int32) (l2 : Int32) (l3 : Int32) (l4 : Int32) (l5 : Int32) (l6 : Int32) (l7 : Int32) (l8 : Int32) (l9 : Int32) (l10 : Int32) (l11 : Int32) (l12 : Int32) : Option (Unit × SG) :=
  if 4 < l12 then (m_X12_ways_395   c7 c16 σ l1 l2 l3 l4 l5 l6 l7 l8 l9) else (if l4 ≤ l8 then (m_X12_ways_395   c7 c16 σ l1 l2 l3 l4 l5 l6 l7 l8 l9) else (if l2 < (l7 + l12) then (m_X12_ways_395   c7 c16 σ l1 l2 l3 l4 l5 l6 l7 l8 l9) else (bi (m_X12_pair  σ (((l1 + l7) + l12) - 1) (l3 + l8) l5) (fun v42 σ43 => lS (l10 + v42) (fun v45 => gB (inB (((l1 + l7) + l12) - 1) 216) (lS (l11 + (σ43.1 2 (((l1 + l7) + l12) - 1).toNatClampNeg)) (fun v48 => gB (inB 1 8) (gB (inB (l3 + l8) 216) (lS (if 0 ≤ (v48 - (σ43.1 2 (l3 + l8).toNatClampNeg)) then (v48 - (σ43.1 2 (l3 + l8).toNatClampNeg)) else 0 - (v48 - (σ43.1 2 (l3 + l8).toNatClampNeg))) (fun v52 => gB (inB (((l6 * (l7 + l12)) + l8) + 1) 625) (lS (if ((((σ43.1 4 (1 : Int32).toNatClampNeg) * v52) + v45) + (σ43.1 11 (((l6 * (l7 + l12)) + l8) + 1).toNatClampNeg)) < l9 then ((((σ43.1 4 (1 : Int32).toNatClampNeg) * v52) + v45) + (σ43.1 11 (((l6 * (l7 + l12)) + l8) + 1).toNatClampNeg)) else l9) (fun v55 => lS (l12 + 1) (fun v57 => c273 σ43 l1 l2 l3 l4 l5 l6 l7 l8 v55 v45 v48 v57)))))))))))))
def m_X12_ways_273   (c7 : SG → Int32 → Int32 → Int32 → Int32 → Int32 → Int32 → Int32 → Option (Unit × SG)) (c16 : SG → Int32 → Int32 → Int32 → Int32 → Int32 → Int32 → Int32 → Int32 → Option (Unit × SG)) : Nat → SG → Int32 → Int32 → Int32 → Int32 → Int32 → Int32 → Int32 → Int32 → Int32 → Int32 → Int32 → Int32 → Option (Unit × SG)
  | 0, _, _, _, _, _, _, _, _, _, _, _, _, _ => none
  | n + 1, σ, l1, l2, l3, l4, l5, l6, l7, l8, l9, l10, l11, l12 => m_X12_ways_273_s   c7 c16 (m_X12_ways_273   c7 c16 n) σ l1 l2 l3 l4 l5 l6 l7 l8 l9 l10 l11 l12
set_option maxHeartbeats 4000000 in
set_option maxRecDepth 100000 in
theorem kb_X12_ways_273 {p : Program} {l : Launch} {e : Env} {s : State} {m : MethodId} {args : Array Value} {below : List Frame} {meth : Method} {c : Code} {E : EF} (Z : ZT)    (C : cy p s m args meth c cX12_ways none 13 RX12 wsX12_ways E (zD Z) vwCl 24 (za Z) (tysM Z)) {res : Unit × SG} {c7 : SG → Int32 → Int32 → Int32 → Int32 → Int32 → Int32 → Int32 → Option (Unit × SG)} {c16 : SG → Int32 → Int32 → Int32 → Int32 → Int32 → Int32 → Int32 → Int32 → Option (Unit × SG)} (hc7 : ∀ (σ : SG) (l1 : Int32) (l2 : Int32) (l3 : Int32) (l4 : Int32) (l5 : Int32) (l6 : Int32) (l7 : Int32) , c7 σ l1 l2 l3 l4 l5 l6 l7 = some res → ∀ (H : Heap) (locs : List Loc), ws_P (zD Z) vwCl 24 (za Z) (tM Z) σ H → va_S (ws_A 24 (za Z)) s.heap H locs → ∀ (ls : Array Slot), lv_has ls 13 [(0, .ref (za Z 0)), (1, .int l1), (2, .int l2), (3, .int l3), (4, .int l4), (5, .int l5), (6, .int l6), (7, .int l7)] → W p l e rm_X12_ways s m args below meth c H locs 0 0 (MQ below (xQv E (zD Z) vwCl 24 (za Z) (tM Z) (tysM Z) res) args s 0 0 (ws_A 24 (za Z))) (F0 m 7 ls [])) (hc16 : ∀ (σ : SG) (l1 : Int32) (l2 : Int32) (l3 : Int32) (l4 : Int32) (l5 : Int32) (l6 : Int32) (l7 : Int32) (l8 : Int32) , c16 σ l1 l2 l3 l4 l5 l6 l7 l8 = some res → ∀ (H : Heap) (locs : List Loc), ws_P (zD Z) vwCl 24 (za Z) (tM Z) σ H → va_S (ws_A 24 (za Z)) s.heap H locs → ∀ (ls : Array Slot), lv_has ls 13 [(0, .ref (za Z 0)), (1, .int l1), (2, .int l2), (3, .int l3), (4, .int l4), (5, .int l5), (6, .int l6), (7, .int l7), (8, .int l8)] → W p l e rm_X12_ways s m args below meth c H locs 0 0 (MQ below (xQv E (zD Z) vwCl 24 (za Z) (tM Z) (tysM Z) res) args s 0 0 (ws_A 24 (za Z))) (F0 m 16 ls [])) : ∀ (n : Nat) (σ : SG) (l1 : Int32) (l2 : Int32) (l3 : Int32) (l4 : Int32) (l5 : Int32) (l6 : Int32) (l7 : Int32) (l8 : Int32) (l9 : Int32) (l10 : Int32) (l11 : Int32) (l12 : Int32) , m_X12_ways_273   c7 c16 n σ l1 l2 l3 l4 l5 l6 l7 l8 l9 l10 l11 l12 = some res → ∀ (H : Heap) (locs : List Loc), ws_P (zD Z) vwCl 24 (za Z) (tM Z) σ H → va_S (ws_A 24 (za Z)) s.heap H locs → ∀ (ls : Array Slot), lv_has ls 13 [(0, .ref (za Z 0)), (1, .int l1), (2, .int l2), (3, .int l3), (4, .int l4), (5, .int l5), (6, .int l6), (7, .int l7), (8, .int l8), (9, .int l9), (10, .int l10), (11, .int l11), (12, .int l12)] → W p l e rm_X12_ways s m args below meth c H locs 0 0 (MQ below (xQv E (zD Z) vwCl 24 (za Z) (tM Z) (tysM Z) res) args s 0 0 (ws_A 24 (za Z))) (F0 m 273 ls []) := by
  have C0 := C
  obtain ⟨hx, hb, hr, hlocks, hml, hown, hts, hE, hJ, hK⟩ := C0
  intro n
  induction n with
  | zero =>
    intro σ l1 l2 l3 l4 l5 l6 l7 l8 l9 l10 l11 l12  h
    cases h
  | succ n ih =>
    intro σ l1 l2 l3 l4 l5 l6 l7 l8 l9 l10 l11 l12  h H locs hP hS ls hl
    have hc273 : ∀ (σ : SG) (l1 : Int32) (l2 : Int32) (l3 : Int32) (l4 : Int32) (l5 : Int32) (l6 : Int32) (l7 : Int32) (l8 : Int32) (l9 : Int32) (l10 : Int32) (l11 : Int32) (l12 : Int32) , m_X12_ways_273   c7 c16 n σ l1 l2 l3 l4 l5 l6 l7 l8 l9 l10 l11 l12 = some res → ∀ (H : Heap) (locs : List Loc), ws_P (zD Z) vwCl 24 (za Z) (tM Z) σ H → va_S (ws_A 24 (za Z)) s.heap H locs → ∀ (ls : Array Slot), lv_has ls 13 [(0, .ref (za Z 0)), (1, .int l1), (2, .int l2), (3, .int l3), (4, .int l4), (5, .int l5), (6, .int l6), (7, .int l7), (8, .int l8), (9, .int l9), (10, .int l10), (11, .int l11), (12, .int l12)] → W p l e rm_X12_ways s m args below meth c H locs 0 0 (MQ below (xQv E (zD Z) vwCl 24 (za Z) (tM Z) (tysM Z) res) args s 0 0 (ws_A 24 (za Z))) (F0 m 273 ls []) := ih
    have h : m_X12_ways_273_s   c7 c16 (m_X12_ways_273   c7 c16 n) σ l1 l2 l3 l4 l5 l6 l7 l8 l9 l10 l11 l12 = some res := h
    unfold m_X12_ways_273_s at h
    refine lv_iload hx hb dX12_ways_273 (lv_at hl 12 rfl) ?_
    refine lv_iconst (v := 4) hx hb dX12_ways_275 (by decide) ?_
    refine lv_icmp_gt (tgt := 395) hx hb dX12_ways_276 (by decide) (fun q39 => ?_) (fun q39 => ?_)
    · have h := if_p h q39
      exact kb_X12_ways_395 Z    C  hc7 hc16 σ l1 l2 l3 l4 l5 l6 l7 l8 l9 h H locs hP hS ls (lv_sub hl [0, 1, 2, 3, 4, 5, 6, 7, 8, 9] rfl)
    · have h := if_n h q39
      refine lv_iload hx hb dX12_ways_279 (lv_at hl 8 rfl) ?_
      refine lv_iload hx hb dX12_ways_281 (lv_at hl 4 rfl) ?_
      refine lv_icmp_ge (tgt := 395) hx hb dX12_ways_283 (by decide) (fun q40 => ?_) (fun q40 => ?_)
      · have h := if_p h q40
        exact kb_X12_ways_395 Z    C  hc7 hc16 σ l1 l2 l3 l4 l5 l6 l7 l8 l9 h H locs hP hS ls (lv_sub hl [0, 1, 2, 3, 4, 5, 6, 7, 8, 9] rfl)
      · have h := if_n h q40
        refine lv_iload hx hb dX12_ways_286 (lv_at hl 7 rfl) ?_
        refine lv_iload hx hb dX12_ways_288 (lv_at hl 12 rfl) ?_
        refine lv_iadd hx hb dX12_ways_290 ?_
        refine lv_iload_n hx hb dX12_ways_291 rfl (lv_at hl 2 rfl) ?_
        refine lv_icmp_gt (tgt := 395) hx hb dX12_ways_292 (by decide) (fun q41 => ?_) (fun q41 => ?_)
        · have h := if_p h q41
          exact kb_X12_ways_395 Z    C  hc7 hc16 σ l1 l2 l3 l4 l5 l6 l7 l8 l9 h H locs hP hS ls (lv_sub hl [0, 1, 2, 3, 4, 5, 6, 7, 8, 9] rfl)
        · have h := if_n h q41
          refine lv_iload hx hb dX12_ways_295 (lv_at hl 10 rfl) ?_
          refine lv_aload_n hx hb dX12_ways_297 rfl (lv_at hl 0 rfl) ?_
          refine lv_iload_n hx hb dX12_ways_298 rfl (lv_at hl 1 rfl) ?_
          refine lv_iload hx hb dX12_ways_299 (lv_at hl 7 rfl) ?_
          refine lv_iadd hx hb dX12_ways_301 ?_
          refine lv_iload hx hb dX12_ways_302 (lv_at hl 12 rfl) ?_
          refine lv_iadd hx hb dX12_ways_304 ?_
          refine lv_iconst (v := 1) hx hb dX12_ways_305 (by decide) ?_
          refine lv_isub hx hb dX12_ways_306 ?_
          refine lv_iload_n hx hb dX12_ways_307 rfl (lv_at hl 3 rfl) ?_
          refine lv_iload hx hb dX12_ways_308 (lv_at hl 8 rfl) ?_
          refine lv_iadd hx hb dX12_ways_310 ?_
          refine lv_iload hx hb dX12_ways_311 (lv_at hl 5 rfl) ?_
          obtain ⟨v42, σ43, hm44, h⟩ := bi_e h
          refine xr_calli (res := (v42, σ43)) (va_runV (As := [.int (((l1 + l7) + l12) - 1), .int (l3 + l8), .int l5]) (rest := [.int l10]) ⟨hx, hb, hml, hown, hts⟩ (k_X12_pair l Z   σ (((l1 + l7) + l12) - 1) (l3 + l8) l5 hm44) (cwV 3 hts gX12_ways_X12_pair rfl rfl rfl (by decide +kernel) ⟨Nat.le_of_ble_eq_true rfl, Nat.le_of_ble_eq_true rfl⟩) ⟨wx_blind, wr_recv hK hP (k := 0) (by decide) ((tM_0 Z) _ _ _) rfl, fun U hU hW => ⟨rfl, wx_at hE hJ hP hK hS hU hW⟩⟩ rfl rfl hl.1 rfl (lv_room (Nat.le_of_ble_eq_true rfl)) dX12_ways_313 ⟨Nat.le_of_ble_eq_true rfl, Nat.le_of_ble_eq_true rfl⟩) hS (fun H locs hP hS => ?_)
          have hP : ws_P (zD Z) vwCl 24 (za Z) (tM Z) σ43 H := hP
          refine lv_iadd hx hb dX12_ways_316 ?_
          refine lv_topi (fun v45 e46 => ?_)
          have h := lS_u h e46
          refine lv_istore (lv' := [(10, .int v45), (0, .ref (za Z 0)), (1, .int l1), (2, .int l2), (3, .int l3), (4, .int l4), (5, .int l5), (6, .int l6), (7, .int l7), (8, .int l8), (9, .int l9), (11, .int l11), (12, .int l12)]) hx hb dX12_ways_317 hl (by decide) rfl (fun ls hl => ?_)
          refine lv_iload hx hb dX12_ways_319 (lv_at hl 11 rfl) ?_
          refine lv_aload_n hx hb dX12_ways_321 rfl (lv_at hl 1 rfl) ?_
          refine wr_get (C := RX12) (T := TX12) (N := 41) hx hb hts (in_X12_ways_X12) hown hK hP (k := 0) (by decide) ((tM_0 Z) _ _ _) rfl 2 (by decide) (hts (.fieldLink RX12 15 "TuneSearchModel" "length" "[I") (by decide +kernel)) (fun _ h9 => h9) rfl dX12_ways_322 ?_
          refine lv_iload_n hx hb dX12_ways_325 rfl (lv_at hl 2 rfl) ?_
          refine lv_iload hx hb dX12_ways_326 (lv_at hl 8 rfl) ?_
          refine lv_iadd hx hb dX12_ways_328 ?_
          refine lv_iload hx hb dX12_ways_329 (lv_at hl 12 rfl) ?_
          refine lv_iadd hx hb dX12_ways_331 ?_
          refine lv_iconst (v := 1) hx hb dX12_ways_332 (by decide) ?_
          refine lv_isub hx hb dX12_ways_333 ?_
          obtain ⟨b47, h⟩ := gB_e h
          refine wr_iald hx hb hK hP (k := 2) (by decide) 0 ((tM_2 Z) _ _ _) rfl b47 dX12_ways_334 ?_
          refine lv_iadd hx hb dX12_ways_335 ?_
          refine lv_topi (fun v48 e49 => ?_)
          have h := lS_u h e49
          refine lv_istore (lv' := [(11, .int v48), (10, .int v45), (0, .ref (za Z 0)), (1, .int l1), (2, .int l2), (3, .int l3), (4, .int l4), (5, .int l5), (6, .int l6), (7, .int l7), (8, .int l8), (9, .int l9), (12, .int l12)]) hx hb dX12_ways_336 hl (by decide) rfl (fun ls hl => ?_)
          refine lv_iload hx hb dX12_ways_338 (lv_at hl 11 rfl) ?_
          refine lv_aload_n hx hb dX12_ways_340 rfl (lv_at hl 2 rfl) ?_
          refine wr_get (C := RX12) (T := TX12) (N := 41) hx hb hts (in_X12_ways_X12) hown hK hP (k := 0) (by decide) ((tM_0 Z) _ _ _) rfl 5 (by decide) (hts (.fieldLink RX12 21 "TuneSearchModel" "prices" "[I") (by decide +kernel)) (fun _ h9 => h9) rfl dX12_ways_341 ?_
          refine lv_iconst (v := 1) hx hb dX12_ways_344 (by decide) ?_
          obtain ⟨b50, h⟩ := gB_e h
          refine wr_iald hx hb hK hP (k := 4) (by decide) 0 ((tM_4 Z) _ _ _) rfl b50 dX12_ways_345 ?_
          refine lv_iload hx hb dX12_ways_346 (lv_at hl 0 rfl) ?_
          refine lv_aload_n hx hb dX12_ways_348 rfl (lv_at hl 2 rfl) ?_
          refine wr_get (C := RX12) (T := TX12) (N := 41) hx hb hts (in_X12_ways_X12) hown hK hP (k := 0) (by decide) ((tM_0 Z) _ _ _) rfl 2 (by decide) (hts (.fieldLink RX12 15 "TuneSearchModel" "length" "[I") (by decide +kernel)) (fun _ h9 => h9) rfl dX12_ways_349 ?_
          refine lv_iload_n hx hb dX12_ways_352 rfl (lv_at hl 5 rfl) ?_
          refine lv_iload hx hb dX12_ways_353 (lv_at hl 10 rfl) ?_
          refine lv_iadd hx hb dX12_ways_355 ?_
          obtain ⟨b51, h⟩ := gB_e h
          refine wr_iald hx hb hK hP (k := 2) (by decide) 0 ((tM_2 Z) _ _ _) rfl b51 dX12_ways_356 ?_
          refine lv_isub hx hb dX12_ways_357 ?_
          refine va_mabs hx hb (by rw [hml]; exact hl.1.symm) hown (hts (.methodLink RX12 220 Lib.Math.abs.name) (by decide +kernel)) (hts (.static Lib.Math.abs.name) (by decide +kernel)) (hts (.initialized "java/lang/Math") (by decide +kernel)) (hts (.code Lib.Math.abs.name Lib.Math.abs.code 1 (some .int)) (by decide +kernel)) (Nat.le_of_ble_eq_true rfl) (Nat.le_of_ble_eq_true rfl) (Nat.le_of_ble_eq_true rfl) (Nat.le_of_ble_eq_true rfl) dX12_ways_358 ?_
          refine lv_topi (fun v52 e53 => ?_)
          have h := lS_u h e53
          refine lv_imul hx hb dX12_ways_361 ?_
          refine lv_iload hx hb dX12_ways_362 (lv_at hl 1 rfl) ?_
          refine lv_iadd hx hb dX12_ways_364 ?_
          refine lv_aload_n hx hb dX12_ways_365 rfl (lv_at hl 2 rfl) ?_
          refine wr_get (C := RX12) (T := TX12) (N := 41) hx hb hts (in_X12_ways_X12) hown hK hP (k := 0) (by decide) ((tM_0 Z) _ _ _) rfl 26 (by decide) (hts (.fieldLink RX12 47 "TuneSearchModel" "table" "[I") (by decide +kernel)) (fun _ h9 => h9) rfl dX12_ways_366 ?_
          refine lv_iload hx hb dX12_ways_369 (lv_at hl 8 rfl) ?_
          refine lv_iload hx hb dX12_ways_371 (lv_at hl 9 rfl) ?_
          refine lv_iload hx hb dX12_ways_373 (lv_at hl 12 rfl) ?_
          refine lv_iadd hx hb dX12_ways_375 ?_
          refine lv_imul hx hb dX12_ways_376 ?_
          refine lv_iload hx hb dX12_ways_377 (lv_at hl 10 rfl) ?_
          refine lv_iadd hx hb dX12_ways_379 ?_
          refine lv_iconst (v := 1) hx hb dX12_ways_380 (by decide) ?_
          refine lv_iadd hx hb dX12_ways_381 ?_
          obtain ⟨b54, h⟩ := gB_e h
          refine wr_iald hx hb hK hP (k := 11) (by decide) 0 ((tM_11 Z) _ _ _) rfl b54 dX12_ways_382 ?_
          refine lv_iadd hx hb dX12_ways_383 ?_
          refine va_mmin hx hb (by rw [hml]; exact hl.1.symm) hown (hts (.methodLink RX12 226 Lib.Math.min.name) (by decide +kernel)) (hts (.static Lib.Math.min.name) (by decide +kernel)) (hts (.initialized "java/lang/Math") (by decide +kernel)) (hts (.code Lib.Math.min.name Lib.Math.min.code 2 (some .int)) (by decide +kernel)) (Nat.le_of_ble_eq_true rfl) (Nat.le_of_ble_eq_true rfl) (Nat.le_of_ble_eq_true rfl) (Nat.le_of_ble_eq_true rfl) dX12_ways_384 ?_
          refine lv_topi (fun v55 e56 => ?_)
          have h := lS_u h e56
          refine lv_istore (lv' := [(9, .int v55), (11, .int v48), (10, .int v45), (0, .ref (za Z 0)), (1, .int l1), (2, .int l2), (3, .int l3), (4, .int l4), (5, .int l5), (6, .int l6), (7, .int l7), (8, .int l8), (12, .int l12)]) hx hb dX12_ways_387 hl (by decide) rfl (fun ls hl => ?_)
          obtain ⟨v57, e58, h⟩ := lS_e h
          refine lv_iinc (v := v57) (lv' := [(12, .int v57), (9, .int v55), (11, .int v48), (10, .int v45), (0, .ref (za Z 0)), (1, .int l1), (2, .int l2), (3, .int l3), (4, .int l4), (5, .int l5), (6, .int l6), (7, .int l7), (8, .int l8)]) hx hb dX12_ways_389 hl (k := 12) rfl (by rw [e58]; rfl) (by decide) rfl (fun ls hl => ?_)
          refine lv_goto (tgt := 273) hx hb dX12_ways_392 (by decide) ?_
          exact hc273 σ43 l1 l2 l3 l4 l5 l6 l7 l8 v55 v45 v48 v57 h H locs hP hS ls (lv_sub hl [4, 5, 6, 7, 8, 9, 10, 11, 12, 1, 3, 2, 0] rfl)
def m_X12_ways_264   (c7 : SG → Int32 → Int32 → Int32 → Int32 → Int32 → Int32 → Int32 → Option (Unit × SG)) (c16 : SG → Int32 → Int32 → Int32 → Int32 → Int32 → Int32 → Int32 → Int32 → Option (Unit × SG)) (σ : SG) (l1 : Int32) (l2 : Int32) (l3 : Int32) (l4 : Int32) (l5 : Int32) (l6 : Int32) (l7 : Int32) (l8 : Int32) (l9 : Int32) : Option (Unit × SG) :=
  m_X12_ways_273   c7 c16 FV σ l1 l2 l3 l4 l5 l6 l7 l8 l9 0 0 1
set_option maxHeartbeats 4000000 in
set_option maxRecDepth 100000 in
theorem kb_X12_ways_264 {p : Program} {l : Launch} {e : Env} {s : State} {m : MethodId} {args : Array Value} {below : List Frame} {meth : Method} {c : Code} {E : EF} (Z : ZT)    (C : cy p s m args meth c cX12_ways none 13 RX12 wsX12_ways E (zD Z) vwCl 24 (za Z) (tysM Z)) {res : Unit × SG} {c7 : SG → Int32 → Int32 → Int32 → Int32 → Int32 → Int32 → Int32 → Option (Unit × SG)} {c16 : SG → Int32 → Int32 → Int32 → Int32 → Int32 → Int32 → Int32 → Int32 → Option (Unit × SG)} (hc7 : ∀ (σ : SG) (l1 : Int32) (l2 : Int32) (l3 : Int32) (l4 : Int32) (l5 : Int32) (l6 : Int32) (l7 : Int32) , c7 σ l1 l2 l3 l4 l5 l6 l7 = some res → ∀ (H : Heap) (locs : List Loc), ws_P (zD Z) vwCl 24 (za Z) (tM Z) σ H → va_S (ws_A 24 (za Z)) s.heap H locs → ∀ (ls : Array Slot), lv_has ls 13 [(0, .ref (za Z 0)), (1, .int l1), (2, .int l2), (3, .int l3), (4, .int l4), (5, .int l5), (6, .int l6), (7, .int l7)] → W p l e rm_X12_ways s m args below meth c H locs 0 0 (MQ below (xQv E (zD Z) vwCl 24 (za Z) (tM Z) (tysM Z) res) args s 0 0 (ws_A 24 (za Z))) (F0 m 7 ls [])) (hc16 : ∀ (σ : SG) (l1 : Int32) (l2 : Int32) (l3 : Int32) (l4 : Int32) (l5 : Int32) (l6 : Int32) (l7 : Int32) (l8 : Int32) , c16 σ l1 l2 l3 l4 l5 l6 l7 l8 = some res → ∀ (H : Heap) (locs : List Loc), ws_P (zD Z) vwCl 24 (za Z) (tM Z) σ H → va_S (ws_A 24 (za Z)) s.heap H locs → ∀ (ls : Array Slot), lv_has ls 13 [(0, .ref (za Z 0)), (1, .int l1), (2, .int l2), (3, .int l3), (4, .int l4), (5, .int l5), (6, .int l6), (7, .int l7), (8, .int l8)] → W p l e rm_X12_ways s m args below meth c H locs 0 0 (MQ below (xQv E (zD Z) vwCl 24 (za Z) (tM Z) (tysM Z) res) args s 0 0 (ws_A 24 (za Z))) (F0 m 16 ls [])) : ∀ (σ : SG) (l1 : Int32) (l2 : Int32) (l3 : Int32) (l4 : Int32) (l5 : Int32) (l6 : Int32) (l7 : Int32) (l8 : Int32) (l9 : Int32) , m_X12_ways_264   c7 c16 σ l1 l2 l3 l4 l5 l6 l7 l8 l9 = some res → ∀ (H : Heap) (locs : List Loc), ws_P (zD Z) vwCl 24 (za Z) (tM Z) σ H → va_S (ws_A 24 (za Z)) s.heap H locs → ∀ (ls : Array Slot), lv_has ls 13 [(0, .ref (za Z 0)), (1, .int l1), (2, .int l2), (3, .int l3), (4, .int l4), (5, .int l5), (6, .int l6), (7, .int l7), (8, .int l8), (9, .int l9)] → W p l e rm_X12_ways s m args below meth c H locs 0 0 (MQ below (xQv E (zD Z) vwCl 24 (za Z) (tM Z) (tysM Z) res) args s 0 0 (ws_A 24 (za Z))) (F0 m 264 ls []) := by
  have C0 := C
  obtain ⟨hx, hb, hr, hlocks, hml, hown, hts, hE, hJ, hK⟩ := C0
  intro σ l1 l2 l3 l4 l5 l6 l7 l8 l9  h H locs hP hS ls hl
  unfold m_X12_ways_264 at h
  refine lv_iconst (v := 0) hx hb dX12_ways_264 (by decide) ?_
  refine lv_istore (lv' := [(10, .int 0), (0, .ref (za Z 0)), (1, .int l1), (2, .int l2), (3, .int l3), (4, .int l4), (5, .int l5), (6, .int l6), (7, .int l7), (8, .int l8), (9, .int l9)]) hx hb dX12_ways_265 hl (by decide) rfl (fun ls hl => ?_)
  refine lv_iconst (v := 0) hx hb dX12_ways_267 (by decide) ?_
  refine lv_istore (lv' := [(11, .int 0), (10, .int 0), (0, .ref (za Z 0)), (1, .int l1), (2, .int l2), (3, .int l3), (4, .int l4), (5, .int l5), (6, .int l6), (7, .int l7), (8, .int l8), (9, .int l9)]) hx hb dX12_ways_268 hl (by decide) rfl (fun ls hl => ?_)
  refine lv_iconst (v := 1) hx hb dX12_ways_270 (by decide) ?_
  refine lv_istore (lv' := [(12, .int 1), (11, .int 0), (10, .int 0), (0, .ref (za Z 0)), (1, .int l1), (2, .int l2), (3, .int l3), (4, .int l4), (5, .int l5), (6, .int l6), (7, .int l7), (8, .int l8), (9, .int l9)]) hx hb dX12_ways_271 hl (by decide) rfl (fun ls hl => ?_)
  exact kb_X12_ways_273 Z    C  hc7 hc16 FV σ l1 l2 l3 l4 l5 l6 l7 l8 l9 0 0 1 h H locs hP hS ls (lv_sub hl [3, 4, 5, 6, 7, 8, 9, 10, 11, 12, 2, 1, 0] rfl)
def m_X12_ways_142_s   (c7 : SG → Int32 → Int32 → Int32 → Int32 → Int32 → Int32 → Int32 → Option (Unit × SG)) (c16 : SG → Int32 → Int32 → Int32 → Int32 → Int32 → Int32 → Int32 → Int32 → Option (Unit × SG)) (c142 : SG → Int32 → Int32 → Int32 → Int32 → Int32 → Int32 → Int32 → Int32 → Int32 → Int32 → Int32 → Int32 → Option (Unit × SG)) (σ : SG) (l1 : Int32) (l2 : Int32) (l3 : Int32) (l4 : Int32) (l5 : Int32) (l6 : Int32) (l7 : Int32) (l8 : Int32) (l9 : Int32) (l10 : Int32) (l11 : Int32) (l12 : Int32) : Option (Unit × SG) :=
  if 4 < l12 then (m_X12_ways_264   c7 c16 σ l1 l2 l3 l4 l5 l6 l7 l8 l9) else (if l2 ≤ l7 then (m_X12_ways_264   c7 c16 σ l1 l2 l3 l4 l5 l6 l7 l8 l9) else (if l4 < (l8 + l12) then (m_X12_ways_264   c7 c16 σ l1 l2 l3 l4 l5 l6 l7 l8 l9) else (bi (m_X12_pair  σ (l1 + l7) (((l3 + l8) + l12) - 1) l5) (fun v22 σ23 => lS (l10 + v22) (fun v25 => gB (inB (((l3 + l8) + l12) - 1) 216) (lS (l11 + (σ23.1 2 (((l3 + l8) + l12) - 1).toNatClampNeg)) (fun v28 => gB (inB 1 8) (gB (inB (l1 + l7) 216) (lS (if 0 ≤ ((σ23.1 2 (l1 + l7).toNatClampNeg) - v28) then ((σ23.1 2 (l1 + l7).toNatClampNeg) - v28) else 0 - ((σ23.1 2 (l1 + l7).toNatClampNeg) - v28)) (fun v32 => gB (inB (((l6 * (l7 + 1)) + l8) + l12) 625) (lS (if ((((σ23.1 4 (1 : Int32).toNatClampNeg) * v32) + v25) + (σ23.1 11 (((l6 * (l7 + 1)) + l8) + l12).toNatClampNeg)) < l9 then ((((σ23.1 4 (1 : Int32).toNatClampNeg) * v32) + v25) + (σ23.1 11 (((l6 * (l7 + 1)) + l8) + l12).toNatClampNeg)) else l9) (fun v35 => lS (l12 + 1) (fun v37 => c142 σ23 l1 l2 l3 l4 l5 l6 l7 l8 v35 v25 v28 v37)))))))))))))
def m_X12_ways_142   (c7 : SG → Int32 → Int32 → Int32 → Int32 → Int32 → Int32 → Int32 → Option (Unit × SG)) (c16 : SG → Int32 → Int32 → Int32 → Int32 → Int32 → Int32 → Int32 → Int32 → Option (Unit × SG)) : Nat → SG → Int32 → Int32 → Int32 → Int32 → Int32 → Int32 → Int32 → Int32 → Int32 → Int32 → Int32 → Int32 → Option (Unit × SG)
  | 0, _, _, _, _, _, _, _, _, _, _, _, _, _ => none
  | n + 1, σ, l1, l2, l3, l4, l5, l6, l7, l8, l9, l10, l11, l12 => m_X12_ways_142_s   c7 c16 (m_X12_ways_142   c7 c16 n) σ l1 l2 l3 l4 l5 l6 l7 l8 l9 l10 l11 l12
set_option maxHeartbeats 4000000 in
set_option maxRecDepth 100000 in
theorem kb_X12_ways_142 {p : Program} {l : Launch} {e : Env} {s : State} {m : MethodId} {args : Array Value} {below : List Frame} {meth : Method} {c : Code} {E : EF} (Z : ZT)    (C : cy p s m args meth c cX12_ways none 13 RX12 wsX12_ways E (zD Z) vwCl 24 (za Z) (tysM Z)) {res : Unit × SG} {c7 : SG → Int32 → Int32 → Int32 → Int32 → Int32 → Int32 → Int32 → Option (Unit × SG)} {c16 : SG → Int32 → Int32 → Int32 → Int32 → Int32 → Int32 → Int32 → Int32 → Option (Unit × SG)} (hc7 : ∀ (σ : SG) (l1 : Int32) (l2 : Int32) (l3 : Int32) (l4 : Int32) (l5 : Int32) (l6 : Int32) (l7 : Int32) , c7 σ l1 l2 l3 l4 l5 l6 l7 = some res → ∀ (H : Heap) (locs : List Loc), ws_P (zD Z) vwCl 24 (za Z) (tM Z) σ H → va_S (ws_A 24 (za Z)) s.heap H locs → ∀ (ls : Array Slot), lv_has ls 13 [(0, .ref (za Z 0)), (1, .int l1), (2, .int l2), (3, .int l3), (4, .int l4), (5, .int l5), (6, .int l6), (7, .int l7)] → W p l e rm_X12_ways s m args below meth c H locs 0 0 (MQ below (xQv E (zD Z) vwCl 24 (za Z) (tM Z) (tysM Z) res) args s 0 0 (ws_A 24 (za Z))) (F0 m 7 ls [])) (hc16 : ∀ (σ : SG) (l1 : Int32) (l2 : Int32) (l3 : Int32) (l4 : Int32) (l5 : Int32) (l6 : Int32) (l7 : Int32) (l8 : Int32) , c16 σ l1 l2 l3 l4 l5 l6 l7 l8 = some res → ∀ (H : Heap) (locs : List Loc), ws_P (zD Z) vwCl 24 (za Z) (tM Z) σ H → va_S (ws_A 24 (za Z)) s.heap H locs → ∀ (ls : Array Slot), lv_has ls 13 [(0, .ref (za Z 0)), (1, .int l1), (2, .int l2), (3, .int l3), (4, .int l4), (5, .int l5), (6, .int l6), (7, .int l7), (8, .int l8)] → W p l e rm_X12_ways s m args below meth c H locs 0 0 (MQ below (xQv E (zD Z) vwCl 24 (za Z) (tM Z) (tysM Z) res) args s 0 0 (ws_A 24 (za Z))) (F0 m 16 ls [])) : ∀ (n : Nat) (σ : SG) (l1 : Int32) (l2 : Int32) (l3 : Int32) (l4 : Int32) (l5 : Int32) (l6 : Int32) (l7 : Int32) (l8 : Int32) (l9 : Int32) (l10 : Int32) (l11 : Int32) (l12 : Int32) , m_X12_ways_142   c7 c16 n σ l1 l2 l3 l4 l5 l6 l7 l8 l9 l10 l11 l12 = some res → ∀ (H : Heap) (locs : List Loc), ws_P (zD Z) vwCl 24 (za Z) (tM Z) σ H → va_S (ws_A 24 (za Z)) s.heap H locs → ∀ (ls : Array Slot), lv_has ls 13 [(0, .ref (za Z 0)), (1, .int l1), (2, .int l2), (3, .int l3), (4, .int l4), (5, .int l5), (6, .int l6), (7, .int l7), (8, .int l8), (9, .int l9), (10, .int l10), (11, .int l11), (12, .int l12)] → W p l e rm_X12_ways s m args below meth c H locs 0 0 (MQ below (xQv E (zD Z) vwCl 24 (za Z) (tM Z) (tysM Z) res) args s 0 0 (ws_A 24 (za Z))) (F0 m 142 ls []) := by
  have C0 := C
  obtain ⟨hx, hb, hr, hlocks, hml, hown, hts, hE, hJ, hK⟩ := C0
  intro n
  induction n with
  | zero =>
    intro σ l1 l2 l3 l4 l5 l6 l7 l8 l9 l10 l11 l12  h
    cases h
  | succ n ih =>
    intro σ l1 l2 l3 l4 l5 l6 l7 l8 l9 l10 l11 l12  h H locs hP hS ls hl
    have hc142 : ∀ (σ : SG) (l1 : Int32) (l2 : Int32) (l3 : Int32) (l4 : Int32) (l5 : Int32) (l6 : Int32) (l7 : Int32) (l8 : Int32) (l9 : Int32) (l10 : Int32) (l11 : Int32) (l12 : Int32) , m_X12_ways_142   c7 c16 n σ l1 l2 l3 l4 l5 l6 l7 l8 l9 l10 l11 l12 = some res → ∀ (H : Heap) (locs : List Loc), ws_P (zD Z) vwCl 24 (za Z) (tM Z) σ H → va_S (ws_A 24 (za Z)) s.heap H locs → ∀ (ls : Array Slot), lv_has ls 13 [(0, .ref (za Z 0)), (1, .int l1), (2, .int l2), (3, .int l3), (4, .int l4), (5, .int l5), (6, .int l6), (7, .int l7), (8, .int l8), (9, .int l9), (10, .int l10), (11, .int l11), (12, .int l12)] → W p l e rm_X12_ways s m args below meth c H locs 0 0 (MQ below (xQv E (zD Z) vwCl 24 (za Z) (tM Z) (tysM Z) res) args s 0 0 (ws_A 24 (za Z))) (F0 m 142 ls []) := ih
    have h : m_X12_ways_142_s   c7 c16 (m_X12_ways_142   c7 c16 n) σ l1 l2 l3 l4 l5 l6 l7 l8 l9 l10 l11 l12 = some res := h
    unfold m_X12_ways_142_s at h
    refine lv_iload hx hb dX12_ways_142 (lv_at hl 12 rfl) ?_
    refine lv_iconst (v := 4) hx hb dX12_ways_144 (by decide) ?_
    refine lv_icmp_gt (tgt := 264) hx hb dX12_ways_145 (by decide) (fun q19 => ?_) (fun q19 => ?_)
    · have h := if_p h q19
      exact kb_X12_ways_264 Z    C  hc7 hc16 σ l1 l2 l3 l4 l5 l6 l7 l8 l9 h H locs hP hS ls (lv_sub hl [0, 1, 2, 3, 4, 5, 6, 7, 8, 9] rfl)
    · have h := if_n h q19
      refine lv_iload hx hb dX12_ways_148 (lv_at hl 7 rfl) ?_
      refine lv_iload_n hx hb dX12_ways_150 rfl (lv_at hl 2 rfl) ?_
      refine lv_icmp_ge (tgt := 264) hx hb dX12_ways_151 (by decide) (fun q20 => ?_) (fun q20 => ?_)
      · have h := if_p h q20
        exact kb_X12_ways_264 Z    C  hc7 hc16 σ l1 l2 l3 l4 l5 l6 l7 l8 l9 h H locs hP hS ls (lv_sub hl [0, 1, 2, 3, 4, 5, 6, 7, 8, 9] rfl)
      · have h := if_n h q20
        refine lv_iload hx hb dX12_ways_154 (lv_at hl 8 rfl) ?_
        refine lv_iload hx hb dX12_ways_156 (lv_at hl 12 rfl) ?_
        refine lv_iadd hx hb dX12_ways_158 ?_
        refine lv_iload hx hb dX12_ways_159 (lv_at hl 4 rfl) ?_
        refine lv_icmp_gt (tgt := 264) hx hb dX12_ways_161 (by decide) (fun q21 => ?_) (fun q21 => ?_)
        · have h := if_p h q21
          exact kb_X12_ways_264 Z    C  hc7 hc16 σ l1 l2 l3 l4 l5 l6 l7 l8 l9 h H locs hP hS ls (lv_sub hl [0, 1, 2, 3, 4, 5, 6, 7, 8, 9] rfl)
        · have h := if_n h q21
          refine lv_iload hx hb dX12_ways_164 (lv_at hl 10 rfl) ?_
          refine lv_aload_n hx hb dX12_ways_166 rfl (lv_at hl 0 rfl) ?_
          refine lv_iload_n hx hb dX12_ways_167 rfl (lv_at hl 1 rfl) ?_
          refine lv_iload hx hb dX12_ways_168 (lv_at hl 7 rfl) ?_
          refine lv_iadd hx hb dX12_ways_170 ?_
          refine lv_iload_n hx hb dX12_ways_171 rfl (lv_at hl 3 rfl) ?_
          refine lv_iload hx hb dX12_ways_172 (lv_at hl 8 rfl) ?_
          refine lv_iadd hx hb dX12_ways_174 ?_
          refine lv_iload hx hb dX12_ways_175 (lv_at hl 12 rfl) ?_
          refine lv_iadd hx hb dX12_ways_177 ?_
          refine lv_iconst (v := 1) hx hb dX12_ways_178 (by decide) ?_
          refine lv_isub hx hb dX12_ways_179 ?_
          refine lv_iload hx hb dX12_ways_180 (lv_at hl 5 rfl) ?_
          obtain ⟨v22, σ23, hm24, h⟩ := bi_e h
          refine xr_calli (res := (v22, σ23)) (va_runV (As := [.int (l1 + l7), .int (((l3 + l8) + l12) - 1), .int l5]) (rest := [.int l10]) ⟨hx, hb, hml, hown, hts⟩ (k_X12_pair l Z   σ (l1 + l7) (((l3 + l8) + l12) - 1) l5 hm24) (cwV 3 hts gX12_ways_X12_pair rfl rfl rfl (by decide +kernel) ⟨Nat.le_of_ble_eq_true rfl, Nat.le_of_ble_eq_true rfl⟩) ⟨wx_blind, wr_recv hK hP (k := 0) (by decide) ((tM_0 Z) _ _ _) rfl, fun U hU hW => ⟨rfl, wx_at hE hJ hP hK hS hU hW⟩⟩ rfl rfl hl.1 rfl (lv_room (Nat.le_of_ble_eq_true rfl)) dX12_ways_182 ⟨Nat.le_of_ble_eq_true rfl, Nat.le_of_ble_eq_true rfl⟩) hS (fun H locs hP hS => ?_)
          have hP : ws_P (zD Z) vwCl 24 (za Z) (tM Z) σ23 H := hP
          refine lv_iadd hx hb dX12_ways_185 ?_
          refine lv_topi (fun v25 e26 => ?_)
          have h := lS_u h e26
          refine lv_istore (lv' := [(10, .int v25), (0, .ref (za Z 0)), (1, .int l1), (2, .int l2), (3, .int l3), (4, .int l4), (5, .int l5), (6, .int l6), (7, .int l7), (8, .int l8), (9, .int l9), (11, .int l11), (12, .int l12)]) hx hb dX12_ways_186 hl (by decide) rfl (fun ls hl => ?_)
          refine lv_iload hx hb dX12_ways_188 (lv_at hl 11 rfl) ?_
          refine lv_aload_n hx hb dX12_ways_190 rfl (lv_at hl 1 rfl) ?_
          refine wr_get (C := RX12) (T := TX12) (N := 41) hx hb hts (in_X12_ways_X12) hown hK hP (k := 0) (by decide) ((tM_0 Z) _ _ _) rfl 2 (by decide) (hts (.fieldLink RX12 15 "TuneSearchModel" "length" "[I") (by decide +kernel)) (fun _ h9 => h9) rfl dX12_ways_191 ?_
          refine lv_iload_n hx hb dX12_ways_194 rfl (lv_at hl 4 rfl) ?_
          refine lv_iload hx hb dX12_ways_195 (lv_at hl 9 rfl) ?_
          refine lv_iadd hx hb dX12_ways_197 ?_
          refine lv_iload hx hb dX12_ways_198 (lv_at hl 12 rfl) ?_
          refine lv_iadd hx hb dX12_ways_200 ?_
          refine lv_iconst (v := 1) hx hb dX12_ways_201 (by decide) ?_
          refine lv_isub hx hb dX12_ways_202 ?_
          obtain ⟨b27, h⟩ := gB_e h
          refine wr_iald hx hb hK hP (k := 2) (by decide) 0 ((tM_2 Z) _ _ _) rfl b27 dX12_ways_203 ?_
          refine lv_iadd hx hb dX12_ways_204 ?_
          refine lv_topi (fun v28 e29 => ?_)
          have h := lS_u h e29
          refine lv_istore (lv' := [(11, .int v28), (10, .int v25), (0, .ref (za Z 0)), (1, .int l1), (2, .int l2), (3, .int l3), (4, .int l4), (5, .int l5), (6, .int l6), (7, .int l7), (8, .int l8), (9, .int l9), (12, .int l12)]) hx hb dX12_ways_205 hl (by decide) rfl (fun ls hl => ?_)
          refine lv_iload hx hb dX12_ways_207 (lv_at hl 11 rfl) ?_
          refine lv_aload_n hx hb dX12_ways_209 rfl (lv_at hl 2 rfl) ?_
          refine wr_get (C := RX12) (T := TX12) (N := 41) hx hb hts (in_X12_ways_X12) hown hK hP (k := 0) (by decide) ((tM_0 Z) _ _ _) rfl 5 (by decide) (hts (.fieldLink RX12 21 "TuneSearchModel" "prices" "[I") (by decide +kernel)) (fun _ h9 => h9) rfl dX12_ways_210 ?_
          refine lv_iconst (v := 1) hx hb dX12_ways_213 (by decide) ?_
          obtain ⟨b30, h⟩ := gB_e h
          refine wr_iald hx hb hK hP (k := 4) (by decide) 0 ((tM_4 Z) _ _ _) rfl b30 dX12_ways_214 ?_
          refine lv_aload_n hx hb dX12_ways_215 rfl (lv_at hl 2 rfl) ?_
          refine wr_get (C := RX12) (T := TX12) (N := 41) hx hb hts (in_X12_ways_X12) hown hK hP (k := 0) (by decide) ((tM_0 Z) _ _ _) rfl 2 (by decide) (hts (.fieldLink RX12 15 "TuneSearchModel" "length" "[I") (by decide +kernel)) (fun _ h9 => h9) rfl dX12_ways_216 ?_
          refine lv_iload_n hx hb dX12_ways_219 rfl (lv_at hl 3 rfl) ?_
          refine lv_iload hx hb dX12_ways_220 (lv_at hl 9 rfl) ?_
          refine lv_iadd hx hb dX12_ways_222 ?_
          obtain ⟨b31, h⟩ := gB_e h
          refine wr_iald hx hb hK hP (k := 2) (by decide) 0 ((tM_2 Z) _ _ _) rfl b31 dX12_ways_223 ?_
          refine lv_iload hx hb dX12_ways_224 (lv_at hl 0 rfl) ?_
          refine lv_isub hx hb dX12_ways_226 ?_
          refine va_mabs hx hb (by rw [hml]; exact hl.1.symm) hown (hts (.methodLink RX12 220 Lib.Math.abs.name) (by decide +kernel)) (hts (.static Lib.Math.abs.name) (by decide +kernel)) (hts (.initialized "java/lang/Math") (by decide +kernel)) (hts (.code Lib.Math.abs.name Lib.Math.abs.code 1 (some .int)) (by decide +kernel)) (Nat.le_of_ble_eq_true rfl) (Nat.le_of_ble_eq_true rfl) (Nat.le_of_ble_eq_true rfl) (Nat.le_of_ble_eq_true rfl) dX12_ways_227 ?_
          refine lv_topi (fun v32 e33 => ?_)
          have h := lS_u h e33
          refine lv_imul hx hb dX12_ways_230 ?_
          refine lv_iload hx hb dX12_ways_231 (lv_at hl 1 rfl) ?_
          refine lv_iadd hx hb dX12_ways_233 ?_
          refine lv_aload_n hx hb dX12_ways_234 rfl (lv_at hl 2 rfl) ?_
          refine wr_get (C := RX12) (T := TX12) (N := 41) hx hb hts (in_X12_ways_X12) hown hK hP (k := 0) (by decide) ((tM_0 Z) _ _ _) rfl 26 (by decide) (hts (.fieldLink RX12 47 "TuneSearchModel" "table" "[I") (by decide +kernel)) (fun _ h9 => h9) rfl dX12_ways_235 ?_
          refine lv_iload hx hb dX12_ways_238 (lv_at hl 8 rfl) ?_
          refine lv_iload hx hb dX12_ways_240 (lv_at hl 9 rfl) ?_
          refine lv_iconst (v := 1) hx hb dX12_ways_242 (by decide) ?_
          refine lv_iadd hx hb dX12_ways_243 ?_
          refine lv_imul hx hb dX12_ways_244 ?_
          refine lv_iload hx hb dX12_ways_245 (lv_at hl 10 rfl) ?_
          refine lv_iadd hx hb dX12_ways_247 ?_
          refine lv_iload hx hb dX12_ways_248 (lv_at hl 12 rfl) ?_
          refine lv_iadd hx hb dX12_ways_250 ?_
          obtain ⟨b34, h⟩ := gB_e h
          refine wr_iald hx hb hK hP (k := 11) (by decide) 0 ((tM_11 Z) _ _ _) rfl b34 dX12_ways_251 ?_
          refine lv_iadd hx hb dX12_ways_252 ?_
          refine va_mmin hx hb (by rw [hml]; exact hl.1.symm) hown (hts (.methodLink RX12 226 Lib.Math.min.name) (by decide +kernel)) (hts (.static Lib.Math.min.name) (by decide +kernel)) (hts (.initialized "java/lang/Math") (by decide +kernel)) (hts (.code Lib.Math.min.name Lib.Math.min.code 2 (some .int)) (by decide +kernel)) (Nat.le_of_ble_eq_true rfl) (Nat.le_of_ble_eq_true rfl) (Nat.le_of_ble_eq_true rfl) (Nat.le_of_ble_eq_true rfl) dX12_ways_253 ?_
          refine lv_topi (fun v35 e36 => ?_)
          have h := lS_u h e36
          refine lv_istore (lv' := [(9, .int v35), (11, .int v28), (10, .int v25), (0, .ref (za Z 0)), (1, .int l1), (2, .int l2), (3, .int l3), (4, .int l4), (5, .int l5), (6, .int l6), (7, .int l7), (8, .int l8), (12, .int l12)]) hx hb dX12_ways_256 hl (by decide) rfl (fun ls hl => ?_)
          obtain ⟨v37, e38, h⟩ := lS_e h
          refine lv_iinc (v := v37) (lv' := [(12, .int v37), (9, .int v35), (11, .int v28), (10, .int v25), (0, .ref (za Z 0)), (1, .int l1), (2, .int l2), (3, .int l3), (4, .int l4), (5, .int l5), (6, .int l6), (7, .int l7), (8, .int l8)]) hx hb dX12_ways_258 hl (k := 12) rfl (by rw [e38]; rfl) (by decide) rfl (fun ls hl => ?_)
          refine lv_goto (tgt := 142) hx hb dX12_ways_261 (by decide) ?_
          exact hc142 σ23 l1 l2 l3 l4 l5 l6 l7 l8 v35 v25 v28 v37 h H locs hP hS ls (lv_sub hl [4, 5, 6, 7, 8, 9, 10, 11, 12, 1, 3, 2, 0] rfl)
def m_X12_ways_133   (c7 : SG → Int32 → Int32 → Int32 → Int32 → Int32 → Int32 → Int32 → Option (Unit × SG)) (c16 : SG → Int32 → Int32 → Int32 → Int32 → Int32 → Int32 → Int32 → Int32 → Option (Unit × SG)) (σ : SG) (l1 : Int32) (l2 : Int32) (l3 : Int32) (l4 : Int32) (l5 : Int32) (l6 : Int32) (l7 : Int32) (l8 : Int32) (l9 : Int32) : Option (Unit × SG) :=
  m_X12_ways_142   c7 c16 FV σ l1 l2 l3 l4 l5 l6 l7 l8 l9 0 0 1
set_option maxHeartbeats 4000000 in
set_option maxRecDepth 100000 in
theorem kb_X12_ways_133 {p : Program} {l : Launch} {e : Env} {s : State} {m : MethodId} {args : Array Value} {below : List Frame} {meth : Method} {c : Code} {E : EF} (Z : ZT)    (C : cy p s m args meth c cX12_ways none 13 RX12 wsX12_ways E (zD Z) vwCl 24 (za Z) (tysM Z)) {res : Unit × SG} {c7 : SG → Int32 → Int32 → Int32 → Int32 → Int32 → Int32 → Int32 → Option (Unit × SG)} {c16 : SG → Int32 → Int32 → Int32 → Int32 → Int32 → Int32 → Int32 → Int32 → Option (Unit × SG)} (hc7 : ∀ (σ : SG) (l1 : Int32) (l2 : Int32) (l3 : Int32) (l4 : Int32) (l5 : Int32) (l6 : Int32) (l7 : Int32) , c7 σ l1 l2 l3 l4 l5 l6 l7 = some res → ∀ (H : Heap) (locs : List Loc), ws_P (zD Z) vwCl 24 (za Z) (tM Z) σ H → va_S (ws_A 24 (za Z)) s.heap H locs → ∀ (ls : Array Slot), lv_has ls 13 [(0, .ref (za Z 0)), (1, .int l1), (2, .int l2), (3, .int l3), (4, .int l4), (5, .int l5), (6, .int l6), (7, .int l7)] → W p l e rm_X12_ways s m args below meth c H locs 0 0 (MQ below (xQv E (zD Z) vwCl 24 (za Z) (tM Z) (tysM Z) res) args s 0 0 (ws_A 24 (za Z))) (F0 m 7 ls [])) (hc16 : ∀ (σ : SG) (l1 : Int32) (l2 : Int32) (l3 : Int32) (l4 : Int32) (l5 : Int32) (l6 : Int32) (l7 : Int32) (l8 : Int32) , c16 σ l1 l2 l3 l4 l5 l6 l7 l8 = some res → ∀ (H : Heap) (locs : List Loc), ws_P (zD Z) vwCl 24 (za Z) (tM Z) σ H → va_S (ws_A 24 (za Z)) s.heap H locs → ∀ (ls : Array Slot), lv_has ls 13 [(0, .ref (za Z 0)), (1, .int l1), (2, .int l2), (3, .int l3), (4, .int l4), (5, .int l5), (6, .int l6), (7, .int l7), (8, .int l8)] → W p l e rm_X12_ways s m args below meth c H locs 0 0 (MQ below (xQv E (zD Z) vwCl 24 (za Z) (tM Z) (tysM Z) res) args s 0 0 (ws_A 24 (za Z))) (F0 m 16 ls [])) : ∀ (σ : SG) (l1 : Int32) (l2 : Int32) (l3 : Int32) (l4 : Int32) (l5 : Int32) (l6 : Int32) (l7 : Int32) (l8 : Int32) (l9 : Int32) , m_X12_ways_133   c7 c16 σ l1 l2 l3 l4 l5 l6 l7 l8 l9 = some res → ∀ (H : Heap) (locs : List Loc), ws_P (zD Z) vwCl 24 (za Z) (tM Z) σ H → va_S (ws_A 24 (za Z)) s.heap H locs → ∀ (ls : Array Slot), lv_has ls 13 [(0, .ref (za Z 0)), (1, .int l1), (2, .int l2), (3, .int l3), (4, .int l4), (5, .int l5), (6, .int l6), (7, .int l7), (8, .int l8), (9, .int l9)] → W p l e rm_X12_ways s m args below meth c H locs 0 0 (MQ below (xQv E (zD Z) vwCl 24 (za Z) (tM Z) (tysM Z) res) args s 0 0 (ws_A 24 (za Z))) (F0 m 133 ls []) := by
  have C0 := C
  obtain ⟨hx, hb, hr, hlocks, hml, hown, hts, hE, hJ, hK⟩ := C0
  intro σ l1 l2 l3 l4 l5 l6 l7 l8 l9  h H locs hP hS ls hl
  unfold m_X12_ways_133 at h
  refine lv_iconst (v := 0) hx hb dX12_ways_133 (by decide) ?_
  refine lv_istore (lv' := [(10, .int 0), (0, .ref (za Z 0)), (1, .int l1), (2, .int l2), (3, .int l3), (4, .int l4), (5, .int l5), (6, .int l6), (7, .int l7), (8, .int l8), (9, .int l9)]) hx hb dX12_ways_134 hl (by decide) rfl (fun ls hl => ?_)
  refine lv_iconst (v := 0) hx hb dX12_ways_136 (by decide) ?_
  refine lv_istore (lv' := [(11, .int 0), (10, .int 0), (0, .ref (za Z 0)), (1, .int l1), (2, .int l2), (3, .int l3), (4, .int l4), (5, .int l5), (6, .int l6), (7, .int l7), (8, .int l8), (9, .int l9)]) hx hb dX12_ways_137 hl (by decide) rfl (fun ls hl => ?_)
  refine lv_iconst (v := 1) hx hb dX12_ways_139 (by decide) ?_
  refine lv_istore (lv' := [(12, .int 1), (11, .int 0), (10, .int 0), (0, .ref (za Z 0)), (1, .int l1), (2, .int l2), (3, .int l3), (4, .int l4), (5, .int l5), (6, .int l6), (7, .int l7), (8, .int l8), (9, .int l9)]) hx hb dX12_ways_140 hl (by decide) rfl (fun ls hl => ?_)
  exact kb_X12_ways_142 Z    C  hc7 hc16 FV σ l1 l2 l3 l4 l5 l6 l7 l8 l9 0 0 1 h H locs hP hS ls (lv_sub hl [3, 4, 5, 6, 7, 8, 9, 10, 11, 12, 2, 1, 0] rfl)
def m_X12_ways_87   (c7 : SG → Int32 → Int32 → Int32 → Int32 → Int32 → Int32 → Int32 → Option (Unit × SG)) (c16 : SG → Int32 → Int32 → Int32 → Int32 → Int32 → Int32 → Int32 → Int32 → Option (Unit × SG)) (σ : SG) (l1 : Int32) (l2 : Int32) (l3 : Int32) (l4 : Int32) (l5 : Int32) (l6 : Int32) (l7 : Int32) (l8 : Int32) (l9 : Int32) : Option (Unit × SG) :=
  if l4 ≤ l8 then (m_X12_ways_133   c7 c16 σ l1 l2 l3 l4 l5 l6 l7 l8 l9) else (gB (inB 3 8) (gB (inB (l3 + l8) 216) (gB (inB (((l6 * l7) + l8) + 1) 625) (lS (if (((σ.1 4 (3 : Int32).toNatClampNeg) * (σ.1 2 (l3 + l8).toNatClampNeg)) + (σ.1 11 (((l6 * l7) + l8) + 1).toNatClampNeg)) < l9 then (((σ.1 4 (3 : Int32).toNatClampNeg) * (σ.1 2 (l3 + l8).toNatClampNeg)) + (σ.1 11 (((l6 * l7) + l8) + 1).toNatClampNeg)) else l9) (fun v17 => m_X12_ways_133   c7 c16 σ l1 l2 l3 l4 l5 l6 l7 l8 v17)))))
set_option maxHeartbeats 4000000 in
set_option maxRecDepth 100000 in
theorem kb_X12_ways_87 {p : Program} {l : Launch} {e : Env} {s : State} {m : MethodId} {args : Array Value} {below : List Frame} {meth : Method} {c : Code} {E : EF} (Z : ZT)    (C : cy p s m args meth c cX12_ways none 13 RX12 wsX12_ways E (zD Z) vwCl 24 (za Z) (tysM Z)) {res : Unit × SG} {c7 : SG → Int32 → Int32 → Int32 → Int32 → Int32 → Int32 → Int32 → Option (Unit × SG)} {c16 : SG → Int32 → Int32 → Int32 → Int32 → Int32 → Int32 → Int32 → Int32 → Option (Unit × SG)} (hc7 : ∀ (σ : SG) (l1 : Int32) (l2 : Int32) (l3 : Int32) (l4 : Int32) (l5 : Int32) (l6 : Int32) (l7 : Int32) , c7 σ l1 l2 l3 l4 l5 l6 l7 = some res → ∀ (H : Heap) (locs : List Loc), ws_P (zD Z) vwCl 24 (za Z) (tM Z) σ H → va_S (ws_A 24 (za Z)) s.heap H locs → ∀ (ls : Array Slot), lv_has ls 13 [(0, .ref (za Z 0)), (1, .int l1), (2, .int l2), (3, .int l3), (4, .int l4), (5, .int l5), (6, .int l6), (7, .int l7)] → W p l e rm_X12_ways s m args below meth c H locs 0 0 (MQ below (xQv E (zD Z) vwCl 24 (za Z) (tM Z) (tysM Z) res) args s 0 0 (ws_A 24 (za Z))) (F0 m 7 ls [])) (hc16 : ∀ (σ : SG) (l1 : Int32) (l2 : Int32) (l3 : Int32) (l4 : Int32) (l5 : Int32) (l6 : Int32) (l7 : Int32) (l8 : Int32) , c16 σ l1 l2 l3 l4 l5 l6 l7 l8 = some res → ∀ (H : Heap) (locs : List Loc), ws_P (zD Z) vwCl 24 (za Z) (tM Z) σ H → va_S (ws_A 24 (za Z)) s.heap H locs → ∀ (ls : Array Slot), lv_has ls 13 [(0, .ref (za Z 0)), (1, .int l1), (2, .int l2), (3, .int l3), (4, .int l4), (5, .int l5), (6, .int l6), (7, .int l7), (8, .int l8)] → W p l e rm_X12_ways s m args below meth c H locs 0 0 (MQ below (xQv E (zD Z) vwCl 24 (za Z) (tM Z) (tysM Z) res) args s 0 0 (ws_A 24 (za Z))) (F0 m 16 ls [])) : ∀ (σ : SG) (l1 : Int32) (l2 : Int32) (l3 : Int32) (l4 : Int32) (l5 : Int32) (l6 : Int32) (l7 : Int32) (l8 : Int32) (l9 : Int32) , m_X12_ways_87   c7 c16 σ l1 l2 l3 l4 l5 l6 l7 l8 l9 = some res → ∀ (H : Heap) (locs : List Loc), ws_P (zD Z) vwCl 24 (za Z) (tM Z) σ H → va_S (ws_A 24 (za Z)) s.heap H locs → ∀ (ls : Array Slot), lv_has ls 13 [(0, .ref (za Z 0)), (1, .int l1), (2, .int l2), (3, .int l3), (4, .int l4), (5, .int l5), (6, .int l6), (7, .int l7), (8, .int l8), (9, .int l9)] → W p l e rm_X12_ways s m args below meth c H locs 0 0 (MQ below (xQv E (zD Z) vwCl 24 (za Z) (tM Z) (tysM Z) res) args s 0 0 (ws_A 24 (za Z))) (F0 m 87 ls []) := by
  have C0 := C
  obtain ⟨hx, hb, hr, hlocks, hml, hown, hts, hE, hJ, hK⟩ := C0
  intro σ l1 l2 l3 l4 l5 l6 l7 l8 l9  h H locs hP hS ls hl
  unfold m_X12_ways_87 at h
  refine lv_iload hx hb dX12_ways_87 (lv_at hl 8 rfl) ?_
  refine lv_iload hx hb dX12_ways_89 (lv_at hl 4 rfl) ?_
  refine lv_icmp_ge (tgt := 133) hx hb dX12_ways_91 (by decide) (fun q13 => ?_) (fun q13 => ?_)
  · have h := if_p h q13
    exact kb_X12_ways_133 Z    C  hc7 hc16 σ l1 l2 l3 l4 l5 l6 l7 l8 l9 h H locs hP hS ls (lv_sub hl [0, 1, 2, 3, 4, 5, 6, 7, 8, 9] rfl)
  · have h := if_n h q13
    refine lv_iload hx hb dX12_ways_94 (lv_at hl 9 rfl) ?_
    refine lv_aload_n hx hb dX12_ways_96 rfl (lv_at hl 0 rfl) ?_
    refine wr_get (C := RX12) (T := TX12) (N := 41) hx hb hts (in_X12_ways_X12) hown hK hP (k := 0) (by decide) ((tM_0 Z) _ _ _) rfl 5 (by decide) (hts (.fieldLink RX12 21 "TuneSearchModel" "prices" "[I") (by decide +kernel)) (fun _ h9 => h9) rfl dX12_ways_97 ?_
    refine lv_iconst (v := 3) hx hb dX12_ways_100 (by decide) ?_
    obtain ⟨b14, h⟩ := gB_e h
    refine wr_iald hx hb hK hP (k := 4) (by decide) 0 ((tM_4 Z) _ _ _) rfl b14 dX12_ways_101 ?_
    refine lv_aload_n hx hb dX12_ways_102 rfl (lv_at hl 0 rfl) ?_
    refine wr_get (C := RX12) (T := TX12) (N := 41) hx hb hts (in_X12_ways_X12) hown hK hP (k := 0) (by decide) ((tM_0 Z) _ _ _) rfl 2 (by decide) (hts (.fieldLink RX12 15 "TuneSearchModel" "length" "[I") (by decide +kernel)) (fun _ h9 => h9) rfl dX12_ways_103 ?_
    refine lv_iload_n hx hb dX12_ways_106 rfl (lv_at hl 3 rfl) ?_
    refine lv_iload hx hb dX12_ways_107 (lv_at hl 8 rfl) ?_
    refine lv_iadd hx hb dX12_ways_109 ?_
    obtain ⟨b15, h⟩ := gB_e h
    refine wr_iald hx hb hK hP (k := 2) (by decide) 0 ((tM_2 Z) _ _ _) rfl b15 dX12_ways_110 ?_
    refine lv_imul hx hb dX12_ways_111 ?_
    refine lv_aload_n hx hb dX12_ways_112 rfl (lv_at hl 0 rfl) ?_
    refine wr_get (C := RX12) (T := TX12) (N := 41) hx hb hts (in_X12_ways_X12) hown hK hP (k := 0) (by decide) ((tM_0 Z) _ _ _) rfl 26 (by decide) (hts (.fieldLink RX12 47 "TuneSearchModel" "table" "[I") (by decide +kernel)) (fun _ h9 => h9) rfl dX12_ways_113 ?_
    refine lv_iload hx hb dX12_ways_116 (lv_at hl 6 rfl) ?_
    refine lv_iload hx hb dX12_ways_118 (lv_at hl 7 rfl) ?_
    refine lv_imul hx hb dX12_ways_120 ?_
    refine lv_iload hx hb dX12_ways_121 (lv_at hl 8 rfl) ?_
    refine lv_iadd hx hb dX12_ways_123 ?_
    refine lv_iconst (v := 1) hx hb dX12_ways_124 (by decide) ?_
    refine lv_iadd hx hb dX12_ways_125 ?_
    obtain ⟨b16, h⟩ := gB_e h
    refine wr_iald hx hb hK hP (k := 11) (by decide) 0 ((tM_11 Z) _ _ _) rfl b16 dX12_ways_126 ?_
    refine lv_iadd hx hb dX12_ways_127 ?_
    refine va_mmin hx hb (by rw [hml]; exact hl.1.symm) hown (hts (.methodLink RX12 226 Lib.Math.min.name) (by decide +kernel)) (hts (.static Lib.Math.min.name) (by decide +kernel)) (hts (.initialized "java/lang/Math") (by decide +kernel)) (hts (.code Lib.Math.min.name Lib.Math.min.code 2 (some .int)) (by decide +kernel)) (Nat.le_of_ble_eq_true rfl) (Nat.le_of_ble_eq_true rfl) (Nat.le_of_ble_eq_true rfl) (Nat.le_of_ble_eq_true rfl) dX12_ways_128 ?_
    refine lv_topi (fun v17 e18 => ?_)
    have h := lS_u h e18
    refine lv_istore (lv' := [(9, .int v17), (0, .ref (za Z 0)), (1, .int l1), (2, .int l2), (3, .int l3), (4, .int l4), (5, .int l5), (6, .int l6), (7, .int l7), (8, .int l8)]) hx hb dX12_ways_131 hl (by decide) rfl (fun ls hl => ?_)
    exact kb_X12_ways_133 Z    C  hc7 hc16 σ l1 l2 l3 l4 l5 l6 l7 l8 v17 h H locs hP hS ls (lv_sub hl [1, 2, 3, 4, 5, 6, 7, 8, 9, 0] rfl)
def m_X12_ways_40   (c7 : SG → Int32 → Int32 → Int32 → Int32 → Int32 → Int32 → Int32 → Option (Unit × SG)) (c16 : SG → Int32 → Int32 → Int32 → Int32 → Int32 → Int32 → Int32 → Int32 → Option (Unit × SG)) (σ : SG) (l1 : Int32) (l2 : Int32) (l3 : Int32) (l4 : Int32) (l5 : Int32) (l6 : Int32) (l7 : Int32) (l8 : Int32) (s0 : Int32) : Option (Unit × SG) :=
  if l2 ≤ l7 then (m_X12_ways_87   c7 c16 σ l1 l2 l3 l4 l5 l6 l7 l8 s0) else (gB (inB 2 8) (gB (inB (l1 + l7) 216) (gB (inB ((l6 * (l7 + 1)) + l8) 625) (lS (if (((σ.1 4 (2 : Int32).toNatClampNeg) * (σ.1 2 (l1 + l7).toNatClampNeg)) + (σ.1 11 ((l6 * (l7 + 1)) + l8).toNatClampNeg)) < s0 then (((σ.1 4 (2 : Int32).toNatClampNeg) * (σ.1 2 (l1 + l7).toNatClampNeg)) + (σ.1 11 ((l6 * (l7 + 1)) + l8).toNatClampNeg)) else s0) (fun v11 => m_X12_ways_87   c7 c16 σ l1 l2 l3 l4 l5 l6 l7 l8 v11)))))
set_option maxHeartbeats 4000000 in
set_option maxRecDepth 100000 in
theorem kb_X12_ways_40 {p : Program} {l : Launch} {e : Env} {s : State} {m : MethodId} {args : Array Value} {below : List Frame} {meth : Method} {c : Code} {E : EF} (Z : ZT)    (C : cy p s m args meth c cX12_ways none 13 RX12 wsX12_ways E (zD Z) vwCl 24 (za Z) (tysM Z)) {res : Unit × SG} {c7 : SG → Int32 → Int32 → Int32 → Int32 → Int32 → Int32 → Int32 → Option (Unit × SG)} {c16 : SG → Int32 → Int32 → Int32 → Int32 → Int32 → Int32 → Int32 → Int32 → Option (Unit × SG)} (hc7 : ∀ (σ : SG) (l1 : Int32) (l2 : Int32) (l3 : Int32) (l4 : Int32) (l5 : Int32) (l6 : Int32) (l7 : Int32) , c7 σ l1 l2 l3 l4 l5 l6 l7 = some res → ∀ (H : Heap) (locs : List Loc), ws_P (zD Z) vwCl 24 (za Z) (tM Z) σ H → va_S (ws_A 24 (za Z)) s.heap H locs → ∀ (ls : Array Slot), lv_has ls 13 [(0, .ref (za Z 0)), (1, .int l1), (2, .int l2), (3, .int l3), (4, .int l4), (5, .int l5), (6, .int l6), (7, .int l7)] → W p l e rm_X12_ways s m args below meth c H locs 0 0 (MQ below (xQv E (zD Z) vwCl 24 (za Z) (tM Z) (tysM Z) res) args s 0 0 (ws_A 24 (za Z))) (F0 m 7 ls [])) (hc16 : ∀ (σ : SG) (l1 : Int32) (l2 : Int32) (l3 : Int32) (l4 : Int32) (l5 : Int32) (l6 : Int32) (l7 : Int32) (l8 : Int32) , c16 σ l1 l2 l3 l4 l5 l6 l7 l8 = some res → ∀ (H : Heap) (locs : List Loc), ws_P (zD Z) vwCl 24 (za Z) (tM Z) σ H → va_S (ws_A 24 (za Z)) s.heap H locs → ∀ (ls : Array Slot), lv_has ls 13 [(0, .ref (za Z 0)), (1, .int l1), (2, .int l2), (3, .int l3), (4, .int l4), (5, .int l5), (6, .int l6), (7, .int l7), (8, .int l8)] → W p l e rm_X12_ways s m args below meth c H locs 0 0 (MQ below (xQv E (zD Z) vwCl 24 (za Z) (tM Z) (tysM Z) res) args s 0 0 (ws_A 24 (za Z))) (F0 m 16 ls [])) : ∀ (σ : SG) (l1 : Int32) (l2 : Int32) (l3 : Int32) (l4 : Int32) (l5 : Int32) (l6 : Int32) (l7 : Int32) (l8 : Int32) (s0 : Int32) , m_X12_ways_40   c7 c16 σ l1 l2 l3 l4 l5 l6 l7 l8 s0 = some res → ∀ (H : Heap) (locs : List Loc), ws_P (zD Z) vwCl 24 (za Z) (tM Z) σ H → va_S (ws_A 24 (za Z)) s.heap H locs → ∀ (ls : Array Slot), lv_has ls 13 [(0, .ref (za Z 0)), (1, .int l1), (2, .int l2), (3, .int l3), (4, .int l4), (5, .int l5), (6, .int l6), (7, .int l7), (8, .int l8)] → W p l e rm_X12_ways s m args below meth c H locs 0 0 (MQ below (xQv E (zD Z) vwCl 24 (za Z) (tM Z) (tysM Z) res) args s 0 0 (ws_A 24 (za Z))) (F0 m 40 ls [.int s0]) := by
  have C0 := C
  obtain ⟨hx, hb, hr, hlocks, hml, hown, hts, hE, hJ, hK⟩ := C0
  intro σ l1 l2 l3 l4 l5 l6 l7 l8 s0  h H locs hP hS ls hl
  unfold m_X12_ways_40 at h
  refine lv_istore (lv' := [(9, .int s0), (0, .ref (za Z 0)), (1, .int l1), (2, .int l2), (3, .int l3), (4, .int l4), (5, .int l5), (6, .int l6), (7, .int l7), (8, .int l8)]) hx hb dX12_ways_40 hl (by decide) rfl (fun ls hl => ?_)
  refine lv_iload hx hb dX12_ways_42 (lv_at hl 8 rfl) ?_
  refine lv_iload_n hx hb dX12_ways_44 rfl (lv_at hl 3 rfl) ?_
  refine lv_icmp_ge (tgt := 87) hx hb dX12_ways_45 (by decide) (fun q7 => ?_) (fun q7 => ?_)
  · have h := if_p h q7
    exact kb_X12_ways_87 Z    C  hc7 hc16 σ l1 l2 l3 l4 l5 l6 l7 l8 s0 h H locs hP hS ls (lv_sub hl [1, 2, 3, 4, 5, 6, 7, 8, 9, 0] rfl)
  · have h := if_n h q7
    refine lv_iload hx hb dX12_ways_48 (lv_at hl 0 rfl) ?_
    refine lv_aload_n hx hb dX12_ways_50 rfl (lv_at hl 1 rfl) ?_
    refine wr_get (C := RX12) (T := TX12) (N := 41) hx hb hts (in_X12_ways_X12) hown hK hP (k := 0) (by decide) ((tM_0 Z) _ _ _) rfl 5 (by decide) (hts (.fieldLink RX12 21 "TuneSearchModel" "prices" "[I") (by decide +kernel)) (fun _ h9 => h9) rfl dX12_ways_51 ?_
    refine lv_iconst (v := 2) hx hb dX12_ways_54 (by decide) ?_
    obtain ⟨b8, h⟩ := gB_e h
    refine wr_iald hx hb hK hP (k := 4) (by decide) 0 ((tM_4 Z) _ _ _) rfl b8 dX12_ways_55 ?_
    refine lv_aload_n hx hb dX12_ways_56 rfl (lv_at hl 1 rfl) ?_
    refine wr_get (C := RX12) (T := TX12) (N := 41) hx hb hts (in_X12_ways_X12) hown hK hP (k := 0) (by decide) ((tM_0 Z) _ _ _) rfl 2 (by decide) (hts (.fieldLink RX12 15 "TuneSearchModel" "length" "[I") (by decide +kernel)) (fun _ h9 => h9) rfl dX12_ways_57 ?_
    refine lv_iload_n hx hb dX12_ways_60 rfl (lv_at hl 2 rfl) ?_
    refine lv_iload hx hb dX12_ways_61 (lv_at hl 8 rfl) ?_
    refine lv_iadd hx hb dX12_ways_63 ?_
    obtain ⟨b9, h⟩ := gB_e h
    refine wr_iald hx hb hK hP (k := 2) (by decide) 0 ((tM_2 Z) _ _ _) rfl b9 dX12_ways_64 ?_
    refine lv_imul hx hb dX12_ways_65 ?_
    refine lv_aload_n hx hb dX12_ways_66 rfl (lv_at hl 1 rfl) ?_
    refine wr_get (C := RX12) (T := TX12) (N := 41) hx hb hts (in_X12_ways_X12) hown hK hP (k := 0) (by decide) ((tM_0 Z) _ _ _) rfl 26 (by decide) (hts (.fieldLink RX12 47 "TuneSearchModel" "table" "[I") (by decide +kernel)) (fun _ h9 => h9) rfl dX12_ways_67 ?_
    refine lv_iload hx hb dX12_ways_70 (lv_at hl 7 rfl) ?_
    refine lv_iload hx hb dX12_ways_72 (lv_at hl 8 rfl) ?_
    refine lv_iconst (v := 1) hx hb dX12_ways_74 (by decide) ?_
    refine lv_iadd hx hb dX12_ways_75 ?_
    refine lv_imul hx hb dX12_ways_76 ?_
    refine lv_iload hx hb dX12_ways_77 (lv_at hl 9 rfl) ?_
    refine lv_iadd hx hb dX12_ways_79 ?_
    obtain ⟨b10, h⟩ := gB_e h
    refine wr_iald hx hb hK hP (k := 11) (by decide) 0 ((tM_11 Z) _ _ _) rfl b10 dX12_ways_80 ?_
    refine lv_iadd hx hb dX12_ways_81 ?_
    refine va_mmin hx hb (by rw [hml]; exact hl.1.symm) hown (hts (.methodLink RX12 226 Lib.Math.min.name) (by decide +kernel)) (hts (.static Lib.Math.min.name) (by decide +kernel)) (hts (.initialized "java/lang/Math") (by decide +kernel)) (hts (.code Lib.Math.min.name Lib.Math.min.code 2 (some .int)) (by decide +kernel)) (Nat.le_of_ble_eq_true rfl) (Nat.le_of_ble_eq_true rfl) (Nat.le_of_ble_eq_true rfl) (Nat.le_of_ble_eq_true rfl) dX12_ways_82 ?_
    refine lv_topi (fun v11 e12 => ?_)
    have h := lS_u h e12
    refine lv_istore (lv' := [(9, .int v11), (0, .ref (za Z 0)), (1, .int l1), (2, .int l2), (3, .int l3), (4, .int l4), (5, .int l5), (6, .int l6), (7, .int l7), (8, .int l8)]) hx hb dX12_ways_85 hl (by decide) rfl (fun ls hl => ?_)
    exact kb_X12_ways_87 Z    C  hc7 hc16 σ l1 l2 l3 l4 l5 l6 l7 l8 v11 h H locs hP hS ls (lv_sub hl [1, 2, 3, 4, 5, 6, 7, 8, 9, 0] rfl)
def m_X12_ways_38   (c7 : SG → Int32 → Int32 → Int32 → Int32 → Int32 → Int32 → Int32 → Option (Unit × SG)) (c16 : SG → Int32 → Int32 → Int32 → Int32 → Int32 → Int32 → Int32 → Int32 → Option (Unit × SG)) (σ : SG) (l1 : Int32) (l2 : Int32) (l3 : Int32) (l4 : Int32) (l5 : Int32) (l6 : Int32) (l7 : Int32) (l8 : Int32) : Option (Unit × SG) :=
  m_X12_ways_40   c7 c16 σ l1 l2 l3 l4 l5 l6 l7 l8 2147483647
set_option maxHeartbeats 4000000 in
set_option maxRecDepth 100000 in
theorem kb_X12_ways_38 {p : Program} {l : Launch} {e : Env} {s : State} {m : MethodId} {args : Array Value} {below : List Frame} {meth : Method} {c : Code} {E : EF} (Z : ZT)    (C : cy p s m args meth c cX12_ways none 13 RX12 wsX12_ways E (zD Z) vwCl 24 (za Z) (tysM Z)) {res : Unit × SG} {c7 : SG → Int32 → Int32 → Int32 → Int32 → Int32 → Int32 → Int32 → Option (Unit × SG)} {c16 : SG → Int32 → Int32 → Int32 → Int32 → Int32 → Int32 → Int32 → Int32 → Option (Unit × SG)} (hc7 : ∀ (σ : SG) (l1 : Int32) (l2 : Int32) (l3 : Int32) (l4 : Int32) (l5 : Int32) (l6 : Int32) (l7 : Int32) , c7 σ l1 l2 l3 l4 l5 l6 l7 = some res → ∀ (H : Heap) (locs : List Loc), ws_P (zD Z) vwCl 24 (za Z) (tM Z) σ H → va_S (ws_A 24 (za Z)) s.heap H locs → ∀ (ls : Array Slot), lv_has ls 13 [(0, .ref (za Z 0)), (1, .int l1), (2, .int l2), (3, .int l3), (4, .int l4), (5, .int l5), (6, .int l6), (7, .int l7)] → W p l e rm_X12_ways s m args below meth c H locs 0 0 (MQ below (xQv E (zD Z) vwCl 24 (za Z) (tM Z) (tysM Z) res) args s 0 0 (ws_A 24 (za Z))) (F0 m 7 ls [])) (hc16 : ∀ (σ : SG) (l1 : Int32) (l2 : Int32) (l3 : Int32) (l4 : Int32) (l5 : Int32) (l6 : Int32) (l7 : Int32) (l8 : Int32) , c16 σ l1 l2 l3 l4 l5 l6 l7 l8 = some res → ∀ (H : Heap) (locs : List Loc), ws_P (zD Z) vwCl 24 (za Z) (tM Z) σ H → va_S (ws_A 24 (za Z)) s.heap H locs → ∀ (ls : Array Slot), lv_has ls 13 [(0, .ref (za Z 0)), (1, .int l1), (2, .int l2), (3, .int l3), (4, .int l4), (5, .int l5), (6, .int l6), (7, .int l7), (8, .int l8)] → W p l e rm_X12_ways s m args below meth c H locs 0 0 (MQ below (xQv E (zD Z) vwCl 24 (za Z) (tM Z) (tysM Z) res) args s 0 0 (ws_A 24 (za Z))) (F0 m 16 ls [])) : ∀ (σ : SG) (l1 : Int32) (l2 : Int32) (l3 : Int32) (l4 : Int32) (l5 : Int32) (l6 : Int32) (l7 : Int32) (l8 : Int32) , m_X12_ways_38   c7 c16 σ l1 l2 l3 l4 l5 l6 l7 l8 = some res → ∀ (H : Heap) (locs : List Loc), ws_P (zD Z) vwCl 24 (za Z) (tM Z) σ H → va_S (ws_A 24 (za Z)) s.heap H locs → ∀ (ls : Array Slot), lv_has ls 13 [(0, .ref (za Z 0)), (1, .int l1), (2, .int l2), (3, .int l3), (4, .int l4), (5, .int l5), (6, .int l6), (7, .int l7), (8, .int l8)] → W p l e rm_X12_ways s m args below meth c H locs 0 0 (MQ below (xQv E (zD Z) vwCl 24 (za Z) (tM Z) (tysM Z) res) args s 0 0 (ws_A 24 (za Z))) (F0 m 38 ls []) := by
  have C0 := C
  obtain ⟨hx, hb, hr, hlocks, hml, hown, hts, hE, hJ, hK⟩ := C0
  intro σ l1 l2 l3 l4 l5 l6 l7 l8  h H locs hP hS ls hl
  unfold m_X12_ways_38 at h
  refine lv_ldc (v := 2147483647) hx hb hown (hts (.constant RX12 225 2147483647) (by decide +kernel)) dX12_ways_38 ?_
  exact kb_X12_ways_40 Z    C  hc7 hc16 σ l1 l2 l3 l4 l5 l6 l7 l8 2147483647 h H locs hP hS ls (lv_sub hl [0, 1, 2, 3, 4, 5, 6, 7, 8] rfl)
def m_X12_ways_16_s   (c7 : SG → Int32 → Int32 → Int32 → Int32 → Int32 → Int32 → Int32 → Option (Unit × SG)) (c16 : SG → Int32 → Int32 → Int32 → Int32 → Int32 → Int32 → Int32 → Int32 → Option (Unit × SG)) (σ : SG) (l1 : Int32) (l2 : Int32) (l3 : Int32) (l4 : Int32) (l5 : Int32) (l6 : Int32) (l7 : Int32) (l8 : Int32) : Option (Unit × SG) :=
  if l8 < 0 then (lS (l7 + (-1)) (fun v3 => c7 σ l1 l2 l3 l4 l5 l6 v3)) else (if ¬ l7 = l2 then (m_X12_ways_38   c7 c16 σ l1 l2 l3 l4 l5 l6 l7 l8) else (if ¬ l8 = l4 then (m_X12_ways_38   c7 c16 σ l1 l2 l3 l4 l5 l6 l7 l8) else (m_X12_ways_40   c7 c16 σ l1 l2 l3 l4 l5 l6 l7 l8 0)))
def m_X12_ways_16   (c7 : SG → Int32 → Int32 → Int32 → Int32 → Int32 → Int32 → Int32 → Option (Unit × SG)) : Nat → SG → Int32 → Int32 → Int32 → Int32 → Int32 → Int32 → Int32 → Int32 → Option (Unit × SG)
  | 0, _, _, _, _, _, _, _, _, _ => none
  | n + 1, σ, l1, l2, l3, l4, l5, l6, l7, l8 => m_X12_ways_16_s   c7 (m_X12_ways_16   c7 n) σ l1 l2 l3 l4 l5 l6 l7 l8
set_option maxHeartbeats 4000000 in
set_option maxRecDepth 100000 in
theorem kb_X12_ways_16 {p : Program} {l : Launch} {e : Env} {s : State} {m : MethodId} {args : Array Value} {below : List Frame} {meth : Method} {c : Code} {E : EF} (Z : ZT)    (C : cy p s m args meth c cX12_ways none 13 RX12 wsX12_ways E (zD Z) vwCl 24 (za Z) (tysM Z)) {res : Unit × SG} {c7 : SG → Int32 → Int32 → Int32 → Int32 → Int32 → Int32 → Int32 → Option (Unit × SG)} (hc7 : ∀ (σ : SG) (l1 : Int32) (l2 : Int32) (l3 : Int32) (l4 : Int32) (l5 : Int32) (l6 : Int32) (l7 : Int32) , c7 σ l1 l2 l3 l4 l5 l6 l7 = some res → ∀ (H : Heap) (locs : List Loc), ws_P (zD Z) vwCl 24 (za Z) (tM Z) σ H → va_S (ws_A 24 (za Z)) s.heap H locs → ∀ (ls : Array Slot), lv_has ls 13 [(0, .ref (za Z 0)), (1, .int l1), (2, .int l2), (3, .int l3), (4, .int l4), (5, .int l5), (6, .int l6), (7, .int l7)] → W p l e rm_X12_ways s m args below meth c H locs 0 0 (MQ below (xQv E (zD Z) vwCl 24 (za Z) (tM Z) (tysM Z) res) args s 0 0 (ws_A 24 (za Z))) (F0 m 7 ls [])) : ∀ (n : Nat) (σ : SG) (l1 : Int32) (l2 : Int32) (l3 : Int32) (l4 : Int32) (l5 : Int32) (l6 : Int32) (l7 : Int32) (l8 : Int32) , m_X12_ways_16   c7 n σ l1 l2 l3 l4 l5 l6 l7 l8 = some res → ∀ (H : Heap) (locs : List Loc), ws_P (zD Z) vwCl 24 (za Z) (tM Z) σ H → va_S (ws_A 24 (za Z)) s.heap H locs → ∀ (ls : Array Slot), lv_has ls 13 [(0, .ref (za Z 0)), (1, .int l1), (2, .int l2), (3, .int l3), (4, .int l4), (5, .int l5), (6, .int l6), (7, .int l7), (8, .int l8)] → W p l e rm_X12_ways s m args below meth c H locs 0 0 (MQ below (xQv E (zD Z) vwCl 24 (za Z) (tM Z) (tysM Z) res) args s 0 0 (ws_A 24 (za Z))) (F0 m 16 ls []) := by
  have C0 := C
  obtain ⟨hx, hb, hr, hlocks, hml, hown, hts, hE, hJ, hK⟩ := C0
  intro n
  induction n with
  | zero =>
    intro σ l1 l2 l3 l4 l5 l6 l7 l8  h
    cases h
  | succ n ih =>
    intro σ l1 l2 l3 l4 l5 l6 l7 l8  h H locs hP hS ls hl
    have hc16 : ∀ (σ : SG) (l1 : Int32) (l2 : Int32) (l3 : Int32) (l4 : Int32) (l5 : Int32) (l6 : Int32) (l7 : Int32) (l8 : Int32) , m_X12_ways_16   c7 n σ l1 l2 l3 l4 l5 l6 l7 l8 = some res → ∀ (H : Heap) (locs : List Loc), ws_P (zD Z) vwCl 24 (za Z) (tM Z) σ H → va_S (ws_A 24 (za Z)) s.heap H locs → ∀ (ls : Array Slot), lv_has ls 13 [(0, .ref (za Z 0)), (1, .int l1), (2, .int l2), (3, .int l3), (4, .int l4), (5, .int l5), (6, .int l6), (7, .int l7), (8, .int l8)] → W p l e rm_X12_ways s m args below meth c H locs 0 0 (MQ below (xQv E (zD Z) vwCl 24 (za Z) (tM Z) (tysM Z) res) args s 0 0 (ws_A 24 (za Z))) (F0 m 16 ls []) := ih
    have h : m_X12_ways_16_s   c7 (m_X12_ways_16   c7 n) σ l1 l2 l3 l4 l5 l6 l7 l8 = some res := h
    unfold m_X12_ways_16_s at h
    refine lv_iload hx hb dX12_ways_16 (lv_at hl 8 rfl) ?_
    refine lv_if_lt (tgt := 416) hx hb dX12_ways_18 (by decide) (fun q2 => ?_) (fun q2 => ?_)
    · have h := if_p h q2
      obtain ⟨v3, e4, h⟩ := lS_e h
      refine lv_iinc (v := v3) (lv' := [(7, .int v3), (0, .ref (za Z 0)), (1, .int l1), (2, .int l2), (3, .int l3), (4, .int l4), (5, .int l5), (6, .int l6), (8, .int l8)]) hx hb dX12_ways_416 hl (k := 7) rfl (by rw [e4]; rfl) (by decide) rfl (fun ls hl => ?_)
      refine lv_goto (tgt := 7) hx hb dX12_ways_419 (by decide) ?_
      exact hc7 σ l1 l2 l3 l4 l5 l6 v3 h H locs hP hS ls (lv_sub hl [1, 2, 3, 4, 5, 6, 7, 0] rfl)
    · have h := if_n h q2
      refine lv_iload hx hb dX12_ways_21 (lv_at hl 7 rfl) ?_
      refine lv_iload_n hx hb dX12_ways_23 rfl (lv_at hl 2 rfl) ?_
      refine lv_icmp_ne (tgt := 38) hx hb dX12_ways_24 (by decide) (fun q5 => ?_) (fun q5 => ?_)
      · have h := if_p h q5
        exact kb_X12_ways_38 Z    C  hc7 hc16 σ l1 l2 l3 l4 l5 l6 l7 l8 h H locs hP hS ls (lv_sub hl [0, 1, 2, 3, 4, 5, 6, 7, 8] rfl)
      · have h := if_n h (fun z => z q5)
        refine lv_iload hx hb dX12_ways_27 (lv_at hl 8 rfl) ?_
        refine lv_iload hx hb dX12_ways_29 (lv_at hl 4 rfl) ?_
        refine lv_icmp_ne (tgt := 38) hx hb dX12_ways_31 (by decide) (fun q6 => ?_) (fun q6 => ?_)
        · have h := if_p h q6
          exact kb_X12_ways_38 Z    C  hc7 hc16 σ l1 l2 l3 l4 l5 l6 l7 l8 h H locs hP hS ls (lv_sub hl [0, 1, 2, 3, 4, 5, 6, 7, 8] rfl)
        · have h := if_n h (fun z => z q6)
          refine lv_iconst (v := 0) hx hb dX12_ways_34 (by decide) ?_
          refine lv_goto (tgt := 40) hx hb dX12_ways_35 (by decide) ?_
          exact kb_X12_ways_40 Z    C  hc7 hc16 σ l1 l2 l3 l4 l5 l6 l7 l8 0 h H locs hP hS ls (lv_sub hl [0, 1, 2, 3, 4, 5, 6, 7, 8] rfl)
def m_X12_ways_7_s    (c7 : SG → Int32 → Int32 → Int32 → Int32 → Int32 → Int32 → Int32 → Option (Unit × SG)) (σ : SG) (l1 : Int32) (l2 : Int32) (l3 : Int32) (l4 : Int32) (l5 : Int32) (l6 : Int32) (l7 : Int32) : Option (Unit × SG) :=
  if l7 < 0 then (some ((), σ)) else (m_X12_ways_16   c7 FV σ l1 l2 l3 l4 l5 l6 l7 l4)
def m_X12_ways_7    : Nat → SG → Int32 → Int32 → Int32 → Int32 → Int32 → Int32 → Int32 → Option (Unit × SG)
  | 0, _, _, _, _, _, _, _, _ => none
  | n + 1, σ, l1, l2, l3, l4, l5, l6, l7 => m_X12_ways_7_s    (m_X12_ways_7    n) σ l1 l2 l3 l4 l5 l6 l7
set_option maxHeartbeats 4000000 in
set_option maxRecDepth 100000 in
theorem kb_X12_ways_7 {p : Program} {l : Launch} {e : Env} {s : State} {m : MethodId} {args : Array Value} {below : List Frame} {meth : Method} {c : Code} {E : EF} (Z : ZT)    (C : cy p s m args meth c cX12_ways none 13 RX12 wsX12_ways E (zD Z) vwCl 24 (za Z) (tysM Z)) {res : Unit × SG}   : ∀ (n : Nat) (σ : SG) (l1 : Int32) (l2 : Int32) (l3 : Int32) (l4 : Int32) (l5 : Int32) (l6 : Int32) (l7 : Int32) , m_X12_ways_7    n σ l1 l2 l3 l4 l5 l6 l7 = some res → ∀ (H : Heap) (locs : List Loc), ws_P (zD Z) vwCl 24 (za Z) (tM Z) σ H → va_S (ws_A 24 (za Z)) s.heap H locs → ∀ (ls : Array Slot), lv_has ls 13 [(0, .ref (za Z 0)), (1, .int l1), (2, .int l2), (3, .int l3), (4, .int l4), (5, .int l5), (6, .int l6), (7, .int l7)] → W p l e rm_X12_ways s m args below meth c H locs 0 0 (MQ below (xQv E (zD Z) vwCl 24 (za Z) (tM Z) (tysM Z) res) args s 0 0 (ws_A 24 (za Z))) (F0 m 7 ls []) := by
  have C0 := C
  obtain ⟨hx, hb, hr, hlocks, hml, hown, hts, hE, hJ, hK⟩ := C0
  intro n
  induction n with
  | zero =>
    intro σ l1 l2 l3 l4 l5 l6 l7  h
    cases h
  | succ n ih =>
    intro σ l1 l2 l3 l4 l5 l6 l7  h H locs hP hS ls hl
    have hc7 : ∀ (σ : SG) (l1 : Int32) (l2 : Int32) (l3 : Int32) (l4 : Int32) (l5 : Int32) (l6 : Int32) (l7 : Int32) , m_X12_ways_7    n σ l1 l2 l3 l4 l5 l6 l7 = some res → ∀ (H : Heap) (locs : List Loc), ws_P (zD Z) vwCl 24 (za Z) (tM Z) σ H → va_S (ws_A 24 (za Z)) s.heap H locs → ∀ (ls : Array Slot), lv_has ls 13 [(0, .ref (za Z 0)), (1, .int l1), (2, .int l2), (3, .int l3), (4, .int l4), (5, .int l5), (6, .int l6), (7, .int l7)] → W p l e rm_X12_ways s m args below meth c H locs 0 0 (MQ below (xQv E (zD Z) vwCl 24 (za Z) (tM Z) (tysM Z) res) args s 0 0 (ws_A 24 (za Z))) (F0 m 7 ls []) := ih
    have h : m_X12_ways_7_s    (m_X12_ways_7    n) σ l1 l2 l3 l4 l5 l6 l7 = some res := h
    unfold m_X12_ways_7_s at h
    refine lv_iload hx hb dX12_ways_7 (lv_at hl 7 rfl) ?_
    refine lv_if_lt (tgt := 422) hx hb dX12_ways_9 (by decide) (fun q1 => ?_) (fun q1 => ?_)
    · have h := if_p h q1
      exact xr_vret hx hb hr hlocks hE hJ hK hP hS h dX12_ways_422
    · have h := if_n h q1
      refine lv_iload hx hb dX12_ways_12 (lv_at hl 4 rfl) ?_
      refine lv_istore (lv' := [(8, .int l4), (0, .ref (za Z 0)), (1, .int l1), (2, .int l2), (3, .int l3), (4, .int l4), (5, .int l5), (6, .int l6), (7, .int l7)]) hx hb dX12_ways_14 hl (by decide) rfl (fun ls hl => ?_)
      exact kb_X12_ways_16 Z    C  hc7 FV σ l1 l2 l3 l4 l5 l6 l7 l4 h H locs hP hS ls (lv_sub hl [1, 2, 3, 4, 5, 6, 7, 8, 0] rfl)
def m_X12_ways_0    (σ : SG) (p0 : Int32) (p1 : Int32) (p2 : Int32) (p3 : Int32) (p4 : Int32) : Option (Unit × SG) :=
  m_X12_ways_7    FV σ p0 p1 p2 p3 p4 25 p1
set_option maxHeartbeats 4000000 in
set_option maxRecDepth 100000 in
theorem kb_X12_ways_0 {p : Program} {l : Launch} {e : Env} {s : State} {m : MethodId} {args : Array Value} {below : List Frame} {meth : Method} {c : Code} {E : EF} (Z : ZT)    (C : cy p s m args meth c cX12_ways none 13 RX12 wsX12_ways E (zD Z) vwCl 24 (za Z) (tysM Z)) {res : Unit × SG}   : ∀ (σ : SG) (p0 : Int32) (p1 : Int32) (p2 : Int32) (p3 : Int32) (p4 : Int32) , m_X12_ways_0    σ p0 p1 p2 p3 p4 = some res → ∀ (H : Heap) (locs : List Loc), ws_P (zD Z) vwCl 24 (za Z) (tM Z) σ H → va_S (ws_A 24 (za Z)) s.heap H locs → ∀ (ls : Array Slot), lv_has ls 13 [(0, .ref (za Z 0)), (1, .int p0), (2, .int p1), (3, .int p2), (4, .int p3), (5, .int p4)] → W p l e rm_X12_ways s m args below meth c H locs 0 0 (MQ below (xQv E (zD Z) vwCl 24 (za Z) (tM Z) (tysM Z) res) args s 0 0 (ws_A 24 (za Z))) (F0 m 0 ls []) := by
  have C0 := C
  obtain ⟨hx, hb, hr, hlocks, hml, hown, hts, hE, hJ, hK⟩ := C0
  intro σ p0 p1 p2 p3 p4  h H locs hP hS ls hl
  unfold m_X12_ways_0 at h
  refine lv_bipush (v := 25) hx hb dX12_ways_0 (by decide) ?_
  refine lv_istore (lv' := [(6, .int 25), (0, .ref (za Z 0)), (1, .int p0), (2, .int p1), (3, .int p2), (4, .int p3), (5, .int p4)]) hx hb dX12_ways_2 hl (by decide) rfl (fun ls hl => ?_)
  refine lv_iload_n hx hb dX12_ways_4 rfl (lv_at hl 3 rfl) ?_
  refine lv_istore (lv' := [(7, .int p1), (6, .int 25), (0, .ref (za Z 0)), (1, .int p0), (2, .int p1), (3, .int p2), (4, .int p3), (5, .int p4)]) hx hb dX12_ways_5 hl (by decide) rfl (fun ls hl => ?_)
  exact kb_X12_ways_7 Z    C   FV σ p0 p1 p2 p3 p4 25 p1 h H locs hP hS ls (lv_sub hl [2, 3, 4, 5, 6, 7, 1, 0] rfl)
def m_X12_ways   (σ : SG) (p0 : Int32) (p1 : Int32) (p2 : Int32) (p3 : Int32) (p4 : Int32) : Option (Unit × SG) := m_X12_ways_0   σ p0 p1 p2 p3 p4
set_option maxHeartbeats 4000000 in
set_option maxRecDepth 100000 in
theorem k_X12_ways (l : Launch) {E : EF} (Z : ZT)    (σ : SG) (p0 : Int32) (p1 : Int32) (p2 : Int32) (p3 : Int32) (p4 : Int32) {res : Unit × SG} (h : m_X12_ways   σ p0 p1 p2 p3 p4 = some res) : Met l yX12_ways wsX12_ways rm_X12_ways (va_Pc [.ref (za Z 0), .int p0, .int p1, .int p2, .int p3, .int p4] (wx E (zD Z) vwCl 24 (za Z) (tM Z) (tysM Z) σ)) (xQv E (zD Z) vwCl 24 (za Z) (tM Z) (tysM Z) res) 0 0 (ws_A 24 (za Z)) := by
  refine Met.ofW (cc := cX12_ways) (maxL := 13) (ret := none) (by decide) rfl ?_
  intro p e s m args below meth c s₁ B hml hv
  obtain ⟨rfl, hE, hJ, hP, hK⟩ := hv
  have hl := lv_entry ([.ref (za Z 0), .int p0, .int p1, .int p2, .int p3, .int p4]) (n := 13) (Nat.le_of_ble_eq_true rfl)
  rw [lg_entry_eq]
  generalize (lg_sl ([.ref (za Z 0), .int p0, .int p1, .int p2, .int p3, .int p4]) ++ List.replicate (13 - (lg_sl ([.ref (za Z 0), .int p0, .int p1, .int p2, .int p3, .int p4])).length) Slot.unset).toArray = ls at hl ⊢
  exact kb_X12_ways_0 Z    ⟨B.exec, B.bytes, B.returns, B.notSynchronized, hml, findClass_of_methodNamed B.named, atoms_spec (ws := wsX12_ways) B.pre, hE, hJ, hK⟩ σ p0 p1 p2 p3 p4 h s.heap [] hP va_S.rf ls hl
/-! TuneSearchModel.distanceOf(III)I -/
abbrev rm_X12_distanceOf : Room := { frames := 3, cells := 0, slots := 0, locals := 78 }
theorem in_X12_distanceOf_X12 : ∀ w ∈ wsX120, w ∈ wsX12_distanceOf := by decide +kernel
def m_X12_distanceOf_0    (σ : SG) (p0 : Int32) (p1 : Int32) (p2 : Int32) : Option (Int32 × SG) :=
  gB (inB p0 9) (gB (inB p1 9) (bi (m_X12_ways  σ (24 * p0) (σ.1 3 p0.toNatClampNeg) (24 * p1) (σ.1 3 p1.toNatClampNeg) p2) (fun v3 σ4 => gB (inB 0 625) (some (σ4.1 11 (0 : Int32).toNatClampNeg, σ4)))))
set_option maxHeartbeats 4000000 in
set_option maxRecDepth 100000 in
theorem kb_X12_distanceOf_0 {p : Program} {l : Launch} {e : Env} {s : State} {m : MethodId} {args : Array Value} {below : List Frame} {meth : Method} {c : Code} {E : EF} (Z : ZT)    (C : cy p s m args meth c cX12_distanceOf (some .int) 4 RX12 wsX12_distanceOf E (zD Z) vwCl 24 (za Z) (tysM Z)) {res : Int32 × SG}   : ∀ (σ : SG) (p0 : Int32) (p1 : Int32) (p2 : Int32) , m_X12_distanceOf_0    σ p0 p1 p2 = some res → ∀ (H : Heap) (locs : List Loc), ws_P (zD Z) vwCl 24 (za Z) (tM Z) σ H → va_S (ws_A 24 (za Z)) s.heap H locs → ∀ (ls : Array Slot), lv_has ls 4 [(0, .ref (za Z 0)), (1, .int p0), (2, .int p1), (3, .int p2)] → W p l e rm_X12_distanceOf s m args below meth c H locs 0 0 (MQ below (xQi E (zD Z) vwCl 24 (za Z) (tM Z) (tysM Z) res) args s 0 0 (ws_A 24 (za Z))) (F0 m 0 ls []) := by
  have C0 := C
  obtain ⟨hx, hb, hr, hlocks, hml, hown, hts, hE, hJ, hK⟩ := C0
  intro σ p0 p1 p2  h H locs hP hS ls hl
  unfold m_X12_distanceOf_0 at h
  refine lv_aload_n hx hb dX12_distanceOf_0 rfl (lv_at hl 0 rfl) ?_
  refine lv_bipush (v := 24) hx hb dX12_distanceOf_1 (by decide) ?_
  refine lv_iload_n hx hb dX12_distanceOf_3 rfl (lv_at hl 1 rfl) ?_
  refine lv_imul hx hb dX12_distanceOf_4 ?_
  refine lv_aload_n hx hb dX12_distanceOf_5 rfl (lv_at hl 0 rfl) ?_
  refine wr_get (C := RX12) (T := TX12) (N := 41) hx hb hts (in_X12_distanceOf_X12) hown hK hP (k := 0) (by decide) ((tM_0 Z) _ _ _) rfl 3 (by decide) (hts (.fieldLink RX12 18 "TuneSearchModel" "size" "[I") (by decide +kernel)) (fun _ h9 => h9) rfl dX12_distanceOf_6 ?_
  refine lv_iload_n hx hb dX12_distanceOf_9 rfl (lv_at hl 1 rfl) ?_
  obtain ⟨b1, h⟩ := gB_e h
  refine wr_iald hx hb hK hP (k := 3) (by decide) 0 ((tM_3 Z) _ _ _) rfl b1 dX12_distanceOf_10 ?_
  refine lv_bipush (v := 24) hx hb dX12_distanceOf_11 (by decide) ?_
  refine lv_iload_n hx hb dX12_distanceOf_13 rfl (lv_at hl 2 rfl) ?_
  refine lv_imul hx hb dX12_distanceOf_14 ?_
  refine lv_aload_n hx hb dX12_distanceOf_15 rfl (lv_at hl 0 rfl) ?_
  refine wr_get (C := RX12) (T := TX12) (N := 41) hx hb hts (in_X12_distanceOf_X12) hown hK hP (k := 0) (by decide) ((tM_0 Z) _ _ _) rfl 3 (by decide) (hts (.fieldLink RX12 18 "TuneSearchModel" "size" "[I") (by decide +kernel)) (fun _ h9 => h9) rfl dX12_distanceOf_16 ?_
  refine lv_iload_n hx hb dX12_distanceOf_19 rfl (lv_at hl 2 rfl) ?_
  obtain ⟨b2, h⟩ := gB_e h
  refine wr_iald hx hb hK hP (k := 3) (by decide) 0 ((tM_3 Z) _ _ _) rfl b2 dX12_distanceOf_20 ?_
  refine lv_iload_n hx hb dX12_distanceOf_21 rfl (lv_at hl 3 rfl) ?_
  obtain ⟨v3, σ4, hm5, h⟩ := bi_e h
  refine xr_callv (res := (v3, σ4)) (va_runV (As := [.int (24 * p0), .int (σ.1 3 p0.toNatClampNeg), .int (24 * p1), .int (σ.1 3 p1.toNatClampNeg), .int p2]) (rest := []) ⟨hx, hb, hml, hown, hts⟩ (k_X12_ways l Z   σ (24 * p0) (σ.1 3 p0.toNatClampNeg) (24 * p1) (σ.1 3 p1.toNatClampNeg) p2 hm5) (cwV 5 hts gX12_distanceOf_X12_ways rfl rfl rfl (by decide +kernel) ⟨Nat.le_of_ble_eq_true rfl, Nat.le_of_ble_eq_true rfl⟩) ⟨wx_blind, wr_recv hK hP (k := 0) (by decide) ((tM_0 Z) _ _ _) rfl, fun U hU hW => ⟨rfl, wx_at hE hJ hP hK hS hU hW⟩⟩ rfl rfl hl.1 rfl (lv_room (Nat.le_of_ble_eq_true rfl)) dX12_distanceOf_22 ⟨Nat.le_of_ble_eq_true rfl, Nat.le_of_ble_eq_true rfl⟩) hS (fun H locs hP hS => ?_)
  have hP : ws_P (zD Z) vwCl 24 (za Z) (tM Z) σ4 H := hP
  refine lv_aload_n hx hb dX12_distanceOf_25 rfl (lv_at hl 0 rfl) ?_
  refine wr_get (C := RX12) (T := TX12) (N := 41) hx hb hts (in_X12_distanceOf_X12) hown hK hP (k := 0) (by decide) ((tM_0 Z) _ _ _) rfl 26 (by decide) (hts (.fieldLink RX12 47 "TuneSearchModel" "table" "[I") (by decide +kernel)) (fun _ h9 => h9) rfl dX12_distanceOf_26 ?_
  refine lv_iconst (v := 0) hx hb dX12_distanceOf_29 (by decide) ?_
  obtain ⟨b6, h⟩ := gB_e h
  refine wr_iald hx hb hK hP (k := 11) (by decide) 0 ((tM_11 Z) _ _ _) rfl b6 dX12_distanceOf_30 ?_
  exact xr_iret hx hb hr hlocks hE hJ hK hP hS h dX12_distanceOf_31
def m_X12_distanceOf   (σ : SG) (p0 : Int32) (p1 : Int32) (p2 : Int32) : Option (Int32 × SG) := m_X12_distanceOf_0   σ p0 p1 p2
set_option maxHeartbeats 4000000 in
set_option maxRecDepth 100000 in
theorem k_X12_distanceOf (l : Launch) {E : EF} (Z : ZT)    (σ : SG) (p0 : Int32) (p1 : Int32) (p2 : Int32) {res : Int32 × SG} (h : m_X12_distanceOf   σ p0 p1 p2 = some res) : Met l yX12_distanceOf wsX12_distanceOf rm_X12_distanceOf (va_Pc [.ref (za Z 0), .int p0, .int p1, .int p2] (wx E (zD Z) vwCl 24 (za Z) (tM Z) (tysM Z) σ)) (xQi E (zD Z) vwCl 24 (za Z) (tM Z) (tysM Z) res) 0 0 (ws_A 24 (za Z)) := by
  refine Met.ofW (cc := cX12_distanceOf) (maxL := 4) (ret := (some .int)) (by decide) rfl ?_
  intro p e s m args below meth c s₁ B hml hv
  obtain ⟨rfl, hE, hJ, hP, hK⟩ := hv
  have hl := lv_entry ([.ref (za Z 0), .int p0, .int p1, .int p2]) (n := 4) (Nat.le_of_ble_eq_true rfl)
  rw [lg_entry_eq]
  generalize (lg_sl ([.ref (za Z 0), .int p0, .int p1, .int p2]) ++ List.replicate (4 - (lg_sl ([.ref (za Z 0), .int p0, .int p1, .int p2])).length) Slot.unset).toArray = ls at hl ⊢
  exact kb_X12_distanceOf_0 Z    ⟨B.exec, B.bytes, B.returns, B.notSynchronized, hml, findClass_of_methodNamed B.named, atoms_spec (ws := wsX12_distanceOf) B.pre, hE, hJ, hK⟩ σ p0 p1 p2 h s.heap [] hP va_S.rf ls hl
/-! TuneSearchModel.distance(III)I -/
abbrev rm_X12_distance : Room := { frames := 4, cells := 0, slots := 0, locals := 101 }
def m_X12_distance_0    (σ : SG) (p0 : Int32) (p1 : Int32) (p2 : Int32) : Option (Int32 × SG) :=
  bi (m_X12_isTune  σ p0) (fun v1 σ2 => if v1 = 0 then (some ((-1), σ2)) else (bi (m_X12_isTune  σ2 p1) (fun v5 σ6 => if ¬ v5 = 0 then (if p2 < (-24) then (some ((-2), σ6)) else (if p2 ≤ 24 then (bi (m_X12_distanceOf  σ6 p0 p1 p2) (fun v11 σ12 => some (v11, σ12))) else (some ((-2), σ6)))) else (some ((-1), σ6)))))
set_option maxHeartbeats 4000000 in
set_option maxRecDepth 100000 in
theorem kb_X12_distance_0 {p : Program} {l : Launch} {e : Env} {s : State} {m : MethodId} {args : Array Value} {below : List Frame} {meth : Method} {c : Code} {E : EF} (Z : ZT)    (C : cy p s m args meth c cX12_distance (some .int) 4 RX12 wsX12_distance E (zD Z) vwCl 24 (za Z) (tysM Z)) {res : Int32 × SG}   : ∀ (σ : SG) (p0 : Int32) (p1 : Int32) (p2 : Int32) , m_X12_distance_0    σ p0 p1 p2 = some res → ∀ (H : Heap) (locs : List Loc), ws_P (zD Z) vwCl 24 (za Z) (tM Z) σ H → va_S (ws_A 24 (za Z)) s.heap H locs → ∀ (ls : Array Slot), lv_has ls 4 [(0, .ref (za Z 0)), (1, .int p0), (2, .int p1), (3, .int p2)] → W p l e rm_X12_distance s m args below meth c H locs 0 0 (MQ below (xQi E (zD Z) vwCl 24 (za Z) (tM Z) (tysM Z) res) args s 0 0 (ws_A 24 (za Z))) (F0 m 0 ls []) := by
  have C0 := C
  obtain ⟨hx, hb, hr, hlocks, hml, hown, hts, hE, hJ, hK⟩ := C0
  intro σ p0 p1 p2  h H locs hP hS ls hl
  unfold m_X12_distance_0 at h
  refine lv_aload_n hx hb dX12_distance_0 rfl (lv_at hl 0 rfl) ?_
  refine lv_iload_n hx hb dX12_distance_1 rfl (lv_at hl 1 rfl) ?_
  obtain ⟨v1, σ2, hm3, h⟩ := bi_e h
  refine xr_calli (res := (v1, σ2)) (va_runV (As := [.int p0]) (rest := []) ⟨hx, hb, hml, hown, hts⟩ (k_X12_isTune l Z   σ p0 hm3) (cwV 1 hts gX12_distance_X12_isTune rfl rfl rfl (by decide +kernel) ⟨Nat.le_of_ble_eq_true rfl, Nat.le_of_ble_eq_true rfl⟩) ⟨wx_blind, wr_recv hK hP (k := 0) (by decide) ((tM_0 Z) _ _ _) rfl, fun U hU hW => ⟨rfl, wx_at hE hJ hP hK hS hU hW⟩⟩ rfl rfl hl.1 rfl (lv_room (Nat.le_of_ble_eq_true rfl)) dX12_distance_2 ⟨Nat.le_of_ble_eq_true rfl, Nat.le_of_ble_eq_true rfl⟩) hS (fun H locs hP hS => ?_)
  have hP : ws_P (zD Z) vwCl 24 (za Z) (tM Z) σ2 H := hP
  refine lv_if_eq (tgt := 16) hx hb dX12_distance_5 (by decide) (fun q4 => ?_) (fun q4 => ?_)
  · have h := if_p h q4
    refine lv_iconst (v := (-1)) hx hb dX12_distance_16 (by decide) ?_
    exact xr_iret hx hb hr hlocks hE hJ hK hP hS h dX12_distance_17
  · have h := if_n h q4
    refine lv_aload_n hx hb dX12_distance_8 rfl (lv_at hl 0 rfl) ?_
    refine lv_iload_n hx hb dX12_distance_9 rfl (lv_at hl 2 rfl) ?_
    obtain ⟨v5, σ6, hm7, h⟩ := bi_e h
    refine xr_calli (res := (v5, σ6)) (va_runV (As := [.int p1]) (rest := []) ⟨hx, hb, hml, hown, hts⟩ (k_X12_isTune l Z   σ2 p1 hm7) (cwV 1 hts gX12_distance_X12_isTune rfl rfl rfl (by decide +kernel) ⟨Nat.le_of_ble_eq_true rfl, Nat.le_of_ble_eq_true rfl⟩) ⟨wx_blind, wr_recv hK hP (k := 0) (by decide) ((tM_0 Z) _ _ _) rfl, fun U hU hW => ⟨rfl, wx_at hE hJ hP hK hS hU hW⟩⟩ rfl rfl hl.1 rfl (lv_room (Nat.le_of_ble_eq_true rfl)) dX12_distance_10 ⟨Nat.le_of_ble_eq_true rfl, Nat.le_of_ble_eq_true rfl⟩) hS (fun H locs hP hS => ?_)
    have hP : ws_P (zD Z) vwCl 24 (za Z) (tM Z) σ6 H := hP
    refine lv_if_ne (tgt := 18) hx hb dX12_distance_13 (by decide) (fun q8 => ?_) (fun q8 => ?_)
    · have h := if_p h q8
      refine lv_iload_n hx hb dX12_distance_18 rfl (lv_at hl 3 rfl) ?_
      refine lv_bipush (v := (-24)) hx hb dX12_distance_19 (by decide) ?_
      refine lv_icmp_lt (tgt := 30) hx hb dX12_distance_21 (by decide) (fun q9 => ?_) (fun q9 => ?_)
      · have h := if_p h q9
        refine lv_bipush (v := (-2)) hx hb dX12_distance_30 (by decide) ?_
        refine lv_goto (tgt := 42) hx hb dX12_distance_32 (by decide) ?_
        exact xr_iret hx hb hr hlocks hE hJ hK hP hS h dX12_distance_42
      · have h := if_n h q9
        refine lv_iload_n hx hb dX12_distance_24 rfl (lv_at hl 3 rfl) ?_
        refine lv_bipush (v := 24) hx hb dX12_distance_25 (by decide) ?_
        refine lv_icmp_le (tgt := 35) hx hb dX12_distance_27 (by decide) (fun q10 => ?_) (fun q10 => ?_)
        · have h := if_p h q10
          refine lv_aload_n hx hb dX12_distance_35 rfl (lv_at hl 0 rfl) ?_
          refine lv_iload_n hx hb dX12_distance_36 rfl (lv_at hl 1 rfl) ?_
          refine lv_iload_n hx hb dX12_distance_37 rfl (lv_at hl 2 rfl) ?_
          refine lv_iload_n hx hb dX12_distance_38 rfl (lv_at hl 3 rfl) ?_
          obtain ⟨v11, σ12, hm13, h⟩ := bi_e h
          refine xr_calli (res := (v11, σ12)) (va_runV (As := [.int p0, .int p1, .int p2]) (rest := []) ⟨hx, hb, hml, hown, hts⟩ (k_X12_distanceOf l Z   σ6 p0 p1 p2 hm13) (cwV 3 hts gX12_distance_X12_distanceOf rfl rfl rfl (by decide +kernel) ⟨Nat.le_of_ble_eq_true rfl, Nat.le_of_ble_eq_true rfl⟩) ⟨wx_blind, wr_recv hK hP (k := 0) (by decide) ((tM_0 Z) _ _ _) rfl, fun U hU hW => ⟨rfl, wx_at hE hJ hP hK hS hU hW⟩⟩ rfl rfl hl.1 rfl (lv_room (Nat.le_of_ble_eq_true rfl)) dX12_distance_39 ⟨Nat.le_of_ble_eq_true rfl, Nat.le_of_ble_eq_true rfl⟩) hS (fun H locs hP hS => ?_)
          have hP : ws_P (zD Z) vwCl 24 (za Z) (tM Z) σ12 H := hP
          exact xr_iret hx hb hr hlocks hE hJ hK hP hS h dX12_distance_42
        · have h := if_n h q10
          refine lv_bipush (v := (-2)) hx hb dX12_distance_30 (by decide) ?_
          refine lv_goto (tgt := 42) hx hb dX12_distance_32 (by decide) ?_
          exact xr_iret hx hb hr hlocks hE hJ hK hP hS h dX12_distance_42
    · have h := if_n h (fun z => z q8)
      refine lv_iconst (v := (-1)) hx hb dX12_distance_16 (by decide) ?_
      exact xr_iret hx hb hr hlocks hE hJ hK hP hS h dX12_distance_17
def m_X12_distance   (σ : SG) (p0 : Int32) (p1 : Int32) (p2 : Int32) : Option (Int32 × SG) := m_X12_distance_0   σ p0 p1 p2
set_option maxHeartbeats 4000000 in
set_option maxRecDepth 100000 in
theorem k_X12_distance (l : Launch) {E : EF} (Z : ZT)    (σ : SG) (p0 : Int32) (p1 : Int32) (p2 : Int32) {res : Int32 × SG} (h : m_X12_distance   σ p0 p1 p2 = some res) : Met l yX12_distance wsX12_distance rm_X12_distance (va_Pc [.ref (za Z 0), .int p0, .int p1, .int p2] (wx E (zD Z) vwCl 24 (za Z) (tM Z) (tysM Z) σ)) (xQi E (zD Z) vwCl 24 (za Z) (tM Z) (tysM Z) res) 0 0 (ws_A 24 (za Z)) := by
  refine Met.ofW (cc := cX12_distance) (maxL := 4) (ret := (some .int)) (by decide) rfl ?_
  intro p e s m args below meth c s₁ B hml hv
  obtain ⟨rfl, hE, hJ, hP, hK⟩ := hv
  have hl := lv_entry ([.ref (za Z 0), .int p0, .int p1, .int p2]) (n := 4) (Nat.le_of_ble_eq_true rfl)
  rw [lg_entry_eq]
  generalize (lg_sl ([.ref (za Z 0), .int p0, .int p1, .int p2]) ++ List.replicate (4 - (lg_sl ([.ref (za Z 0), .int p0, .int p1, .int p2])).length) Slot.unset).toArray = ls at hl ⊢
  exact kb_X12_distance_0 Z    ⟨B.exec, B.bytes, B.returns, B.notSynchronized, hml, findClass_of_methodNamed B.named, atoms_spec (ws := wsX12_distance) B.pre, hE, hJ, hK⟩ σ p0 p1 p2 h s.heap [] hP va_S.rf ls hl
/-! TuneSearchModel.better(III)V -/
abbrev rm_X12_better : Room := { frames := 0, cells := 0, slots := 0, locals := 0 }
theorem in_X12_better_X12 : ∀ w ∈ wsX120, w ∈ wsX12_better := by decide +kernel
def m_X12_better_30    (σ : SG) (l1 : Int32) (l2 : Int32) (l3 : Int32) : Option (Unit × SG) :=
  gB (inB l1 325) (lS (sI σ 12 l1.toNatClampNeg l2) (fun σ8 => gB (inB l1 325) (lS (sI σ8 13 l1.toNatClampNeg l3) (fun σ11 => some ((), σ11)))))
set_option maxHeartbeats 4000000 in
set_option maxRecDepth 100000 in
theorem kb_X12_better_30 {p : Program} {l : Launch} {e : Env} {s : State} {m : MethodId} {args : Array Value} {below : List Frame} {meth : Method} {c : Code} {E : EF} (Z : ZT)    (C : cy p s m args meth c cX12_better none 4 RX12 wsX12_better E (zD Z) vwCl 24 (za Z) (tysM Z)) {res : Unit × SG}   : ∀ (σ : SG) (l1 : Int32) (l2 : Int32) (l3 : Int32) , m_X12_better_30    σ l1 l2 l3 = some res → ∀ (H : Heap) (locs : List Loc), ws_P (zD Z) vwCl 24 (za Z) (tM Z) σ H → va_S (ws_A 24 (za Z)) s.heap H locs → ∀ (ls : Array Slot), lv_has ls 4 [(0, .ref (za Z 0)), (1, .int l1), (2, .int l2), (3, .int l3)] → W p l e rm_X12_better s m args below meth c H locs 0 0 (MQ below (xQv E (zD Z) vwCl 24 (za Z) (tM Z) (tysM Z) res) args s 0 0 (ws_A 24 (za Z))) (F0 m 30 ls []) := by
  have C0 := C
  obtain ⟨hx, hb, hr, hlocks, hml, hown, hts, hE, hJ, hK⟩ := C0
  intro σ l1 l2 l3  h H locs hP hS ls hl
  unfold m_X12_better_30 at h
  refine lv_aload_n hx hb dX12_better_30 rfl (lv_at hl 0 rfl) ?_
  refine wr_get (C := RX12) (T := TX12) (N := 41) hx hb hts (in_X12_better_X12) hown hK hP (k := 0) (by decide) ((tM_0 Z) _ _ _) rfl 27 (by decide) (hts (.fieldLink RX12 50 "TuneSearchModel" "behindCost" "[I") (by decide +kernel)) (fun _ h9 => h9) rfl dX12_better_31 ?_
  refine lv_iload_n hx hb dX12_better_34 rfl (lv_at hl 1 rfl) ?_
  refine lv_iload_n hx hb dX12_better_35 rfl (lv_at hl 2 rfl) ?_
  obtain ⟨b7, h⟩ := gB_e h
  refine wr_iast hx hb hK hP hJ hS (k := 12) (by decide) 0 (tM_12 Z) rfl b7 dX12_better_36 (fun H locs hP hS => ?_)
  obtain ⟨σ8, e9, h⟩ := lS_e h
  rw [← e9] at hP
  refine lv_aload_n hx hb dX12_better_37 rfl (lv_at hl 0 rfl) ?_
  refine wr_get (C := RX12) (T := TX12) (N := 41) hx hb hts (in_X12_better_X12) hown hK hP (k := 0) (by decide) ((tM_0 Z) _ _ _) rfl 28 (by decide) (hts (.fieldLink RX12 53 "TuneSearchModel" "behindFrom" "[I") (by decide +kernel)) (fun _ h9 => h9) rfl dX12_better_38 ?_
  refine lv_iload_n hx hb dX12_better_41 rfl (lv_at hl 1 rfl) ?_
  refine lv_iload_n hx hb dX12_better_42 rfl (lv_at hl 3 rfl) ?_
  obtain ⟨b10, h⟩ := gB_e h
  refine wr_iast hx hb hK hP hJ hS (k := 13) (by decide) 0 (tM_13 Z) rfl b10 dX12_better_43 (fun H locs hP hS => ?_)
  obtain ⟨σ11, e12, h⟩ := lS_e h
  rw [← e12] at hP
  exact xr_vret hx hb hr hlocks hE hJ hK hP hS h dX12_better_44
def m_X12_better_0    (σ : SG) (p0 : Int32) (p1 : Int32) (p2 : Int32) : Option (Unit × SG) :=
  gB (inB p0 325) (if p1 < (σ.1 12 p0.toNatClampNeg) then (m_X12_better_30    σ p0 p1 p2) else (gB (inB p0 325) (if ¬ p1 = (σ.1 12 p0.toNatClampNeg) then (some ((), σ)) else (gB (inB p0 325) (if p2 ≤ (σ.1 13 p0.toNatClampNeg) then (some ((), σ)) else (m_X12_better_30    σ p0 p1 p2))))))
set_option maxHeartbeats 4000000 in
set_option maxRecDepth 100000 in
theorem kb_X12_better_0 {p : Program} {l : Launch} {e : Env} {s : State} {m : MethodId} {args : Array Value} {below : List Frame} {meth : Method} {c : Code} {E : EF} (Z : ZT)    (C : cy p s m args meth c cX12_better none 4 RX12 wsX12_better E (zD Z) vwCl 24 (za Z) (tysM Z)) {res : Unit × SG}   : ∀ (σ : SG) (p0 : Int32) (p1 : Int32) (p2 : Int32) , m_X12_better_0    σ p0 p1 p2 = some res → ∀ (H : Heap) (locs : List Loc), ws_P (zD Z) vwCl 24 (za Z) (tM Z) σ H → va_S (ws_A 24 (za Z)) s.heap H locs → ∀ (ls : Array Slot), lv_has ls 4 [(0, .ref (za Z 0)), (1, .int p0), (2, .int p1), (3, .int p2)] → W p l e rm_X12_better s m args below meth c H locs 0 0 (MQ below (xQv E (zD Z) vwCl 24 (za Z) (tM Z) (tysM Z) res) args s 0 0 (ws_A 24 (za Z))) (F0 m 0 ls []) := by
  have C0 := C
  obtain ⟨hx, hb, hr, hlocks, hml, hown, hts, hE, hJ, hK⟩ := C0
  intro σ p0 p1 p2  h H locs hP hS ls hl
  unfold m_X12_better_0 at h
  refine lv_iload_n hx hb dX12_better_0 rfl (lv_at hl 2 rfl) ?_
  refine lv_aload_n hx hb dX12_better_1 rfl (lv_at hl 0 rfl) ?_
  refine wr_get (C := RX12) (T := TX12) (N := 41) hx hb hts (in_X12_better_X12) hown hK hP (k := 0) (by decide) ((tM_0 Z) _ _ _) rfl 27 (by decide) (hts (.fieldLink RX12 50 "TuneSearchModel" "behindCost" "[I") (by decide +kernel)) (fun _ h9 => h9) rfl dX12_better_2 ?_
  refine lv_iload_n hx hb dX12_better_5 rfl (lv_at hl 1 rfl) ?_
  obtain ⟨b1, h⟩ := gB_e h
  refine wr_iald hx hb hK hP (k := 12) (by decide) 0 ((tM_12 Z) _ _ _) rfl b1 dX12_better_6 ?_
  refine lv_icmp_lt (tgt := 30) hx hb dX12_better_7 (by decide) (fun q2 => ?_) (fun q2 => ?_)
  · have h := if_p h q2
    exact kb_X12_better_30 Z    C   σ p0 p1 p2 h H locs hP hS ls (lv_sub hl [0, 1, 2, 3] rfl)
  · have h := if_n h q2
    refine lv_iload_n hx hb dX12_better_10 rfl (lv_at hl 2 rfl) ?_
    refine lv_aload_n hx hb dX12_better_11 rfl (lv_at hl 0 rfl) ?_
    refine wr_get (C := RX12) (T := TX12) (N := 41) hx hb hts (in_X12_better_X12) hown hK hP (k := 0) (by decide) ((tM_0 Z) _ _ _) rfl 27 (by decide) (hts (.fieldLink RX12 50 "TuneSearchModel" "behindCost" "[I") (by decide +kernel)) (fun _ h9 => h9) rfl dX12_better_12 ?_
    refine lv_iload_n hx hb dX12_better_15 rfl (lv_at hl 1 rfl) ?_
    obtain ⟨b3, h⟩ := gB_e h
    refine wr_iald hx hb hK hP (k := 12) (by decide) 0 ((tM_12 Z) _ _ _) rfl b3 dX12_better_16 ?_
    refine lv_icmp_ne (tgt := 44) hx hb dX12_better_17 (by decide) (fun q4 => ?_) (fun q4 => ?_)
    · have h := if_p h q4
      exact xr_vret hx hb hr hlocks hE hJ hK hP hS h dX12_better_44
    · have h := if_n h (fun z => z q4)
      refine lv_iload_n hx hb dX12_better_20 rfl (lv_at hl 3 rfl) ?_
      refine lv_aload_n hx hb dX12_better_21 rfl (lv_at hl 0 rfl) ?_
      refine wr_get (C := RX12) (T := TX12) (N := 41) hx hb hts (in_X12_better_X12) hown hK hP (k := 0) (by decide) ((tM_0 Z) _ _ _) rfl 28 (by decide) (hts (.fieldLink RX12 53 "TuneSearchModel" "behindFrom" "[I") (by decide +kernel)) (fun _ h9 => h9) rfl dX12_better_22 ?_
      refine lv_iload_n hx hb dX12_better_25 rfl (lv_at hl 1 rfl) ?_
      obtain ⟨b5, h⟩ := gB_e h
      refine wr_iald hx hb hK hP (k := 13) (by decide) 0 ((tM_13 Z) _ _ _) rfl b5 dX12_better_26 ?_
      refine lv_icmp_le (tgt := 44) hx hb dX12_better_27 (by decide) (fun q6 => ?_) (fun q6 => ?_)
      · have h := if_p h q6
        exact xr_vret hx hb hr hlocks hE hJ hK hP hS h dX12_better_44
      · have h := if_n h q6
        exact kb_X12_better_30 Z    C   σ p0 p1 p2 h H locs hP hS ls (lv_sub hl [0, 1, 2, 3] rfl)
def m_X12_better   (σ : SG) (p0 : Int32) (p1 : Int32) (p2 : Int32) : Option (Unit × SG) := m_X12_better_0   σ p0 p1 p2
set_option maxHeartbeats 4000000 in
set_option maxRecDepth 100000 in
theorem k_X12_better (l : Launch) {E : EF} (Z : ZT)    (σ : SG) (p0 : Int32) (p1 : Int32) (p2 : Int32) {res : Unit × SG} (h : m_X12_better   σ p0 p1 p2 = some res) : Met l yX12_better wsX12_better rm_X12_better (va_Pc [.ref (za Z 0), .int p0, .int p1, .int p2] (wx E (zD Z) vwCl 24 (za Z) (tM Z) (tysM Z) σ)) (xQv E (zD Z) vwCl 24 (za Z) (tM Z) (tysM Z) res) 0 0 (ws_A 24 (za Z)) := by
  refine Met.ofW (cc := cX12_better) (maxL := 4) (ret := none) (by decide) rfl ?_
  intro p e s m args below meth c s₁ B hml hv
  obtain ⟨rfl, hE, hJ, hP, hK⟩ := hv
  have hl := lv_entry ([.ref (za Z 0), .int p0, .int p1, .int p2]) (n := 4) (Nat.le_of_ble_eq_true rfl)
  rw [lg_entry_eq]
  generalize (lg_sl ([.ref (za Z 0), .int p0, .int p1, .int p2]) ++ List.replicate (4 - (lg_sl ([.ref (za Z 0), .int p0, .int p1, .int p2])).length) Slot.unset).toArray = ls at hl ⊢
  exact kb_X12_better_0 Z    ⟨B.exec, B.bytes, B.returns, B.notSynchronized, hml, findClass_of_methodNamed B.named, atoms_spec (ws := wsX12_better) B.pre, hE, hJ, hK⟩ σ p0 p1 p2 h s.heap [] hP va_S.rf ls hl
/-! TuneSearchModel.reachEnds(II)V -/
abbrev rm_X12_reachEnds : Room := { frames := 2, cells := 0, slots := 0, locals := 46 }
theorem in_X12_reachEnds_X12 : ∀ w ∈ wsX120, w ∈ wsX12_reachEnds := by decide +kernel
def m_X12_reachEnds_456   (c17 : SG → Int32 → Int32 → Int32 → Int32 → Int32 → Int32 → Option (Unit × SG)) (c32 : SG → Int32 → Int32 → Int32 → Int32 → Int32 → Int32 → Int32 → Option (Unit × SG)) (σ : SG) (l1 : Int32) (l2 : Int32) (l3 : Int32) (l4 : Int32) (l5 : Int32) (l6 : Int32) (l7 : Int32) : Option (Unit × SG) :=
  lS (l7 + 1) (fun v83 => c32 σ l1 l2 l3 l4 l5 l6 v83)
set_option maxHeartbeats 4000000 in
set_option maxRecDepth 100000 in
theorem kb_X12_reachEnds_456 {p : Program} {l : Launch} {e : Env} {s : State} {m : MethodId} {args : Array Value} {below : List Frame} {meth : Method} {c : Code} {E : EF} (Z : ZT)    (C : cy p s m args meth c cX12_reachEnds none 13 RX12 wsX12_reachEnds E (zD Z) vwCl 24 (za Z) (tysM Z)) {res : Unit × SG} {c17 : SG → Int32 → Int32 → Int32 → Int32 → Int32 → Int32 → Option (Unit × SG)} {c32 : SG → Int32 → Int32 → Int32 → Int32 → Int32 → Int32 → Int32 → Option (Unit × SG)} (hc17 : ∀ (σ : SG) (l1 : Int32) (l2 : Int32) (l3 : Int32) (l4 : Int32) (l5 : Int32) (l6 : Int32) , c17 σ l1 l2 l3 l4 l5 l6 = some res → ∀ (H : Heap) (locs : List Loc), ws_P (zD Z) vwCl 24 (za Z) (tM Z) σ H → va_S (ws_A 24 (za Z)) s.heap H locs → ∀ (ls : Array Slot), lv_has ls 13 [(0, .ref (za Z 0)), (1, .int l1), (2, .int l2), (3, .int l3), (4, .int l4), (5, .int l5), (6, .int l6)] → W p l e rm_X12_reachEnds s m args below meth c H locs 0 0 (MQ below (xQv E (zD Z) vwCl 24 (za Z) (tM Z) (tysM Z) res) args s 0 0 (ws_A 24 (za Z))) (F0 m 17 ls [])) (hc32 : ∀ (σ : SG) (l1 : Int32) (l2 : Int32) (l3 : Int32) (l4 : Int32) (l5 : Int32) (l6 : Int32) (l7 : Int32) , c32 σ l1 l2 l3 l4 l5 l6 l7 = some res → ∀ (H : Heap) (locs : List Loc), ws_P (zD Z) vwCl 24 (za Z) (tM Z) σ H → va_S (ws_A 24 (za Z)) s.heap H locs → ∀ (ls : Array Slot), lv_has ls 13 [(0, .ref (za Z 0)), (1, .int l1), (2, .int l2), (3, .int l3), (4, .int l4), (5, .int l5), (6, .int l6), (7, .int l7)] → W p l e rm_X12_reachEnds s m args below meth c H locs 0 0 (MQ below (xQv E (zD Z) vwCl 24 (za Z) (tM Z) (tysM Z) res) args s 0 0 (ws_A 24 (za Z))) (F0 m 32 ls [])) : ∀ (σ : SG) (l1 : Int32) (l2 : Int32) (l3 : Int32) (l4 : Int32) (l5 : Int32) (l6 : Int32) (l7 : Int32) , m_X12_reachEnds_456   c17 c32 σ l1 l2 l3 l4 l5 l6 l7 = some res → ∀ (H : Heap) (locs : List Loc), ws_P (zD Z) vwCl 24 (za Z) (tM Z) σ H → va_S (ws_A 24 (za Z)) s.heap H locs → ∀ (ls : Array Slot), lv_has ls 13 [(0, .ref (za Z 0)), (1, .int l1), (2, .int l2), (3, .int l3), (4, .int l4), (5, .int l5), (6, .int l6), (7, .int l7)] → W p l e rm_X12_reachEnds s m args below meth c H locs 0 0 (MQ below (xQv E (zD Z) vwCl 24 (za Z) (tM Z) (tysM Z) res) args s 0 0 (ws_A 24 (za Z))) (F0 m 456 ls []) := by
  have C0 := C
  obtain ⟨hx, hb, hr, hlocks, hml, hown, hts, hE, hJ, hK⟩ := C0
  intro σ l1 l2 l3 l4 l5 l6 l7  h H locs hP hS ls hl
  unfold m_X12_reachEnds_456 at h
  obtain ⟨v83, e84, h⟩ := lS_e h
  refine lv_iinc (v := v83) (lv' := [(7, .int v83), (0, .ref (za Z 0)), (1, .int l1), (2, .int l2), (3, .int l3), (4, .int l4), (5, .int l5), (6, .int l6)]) hx hb dX12_reachEnds_456 hl (k := 7) rfl (by rw [e84]; rfl) (by decide) rfl (fun ls hl => ?_)
  refine lv_goto (tgt := 32) hx hb dX12_reachEnds_459 (by decide) ?_
  exact hc32 σ l1 l2 l3 l4 l5 l6 v83 h H locs hP hS ls (lv_sub hl [1, 2, 3, 4, 5, 6, 7, 0] rfl)
def m_X12_reachEnds_329_s   (c17 : SG → Int32 → Int32 → Int32 → Int32 → Int32 → Int32 → Option (Unit × SG)) (c32 : SG → Int32 → Int32 → Int32 → Int32 → Int32 → Int32 → Int32 → Option (Unit × SG)) (c329 : SG → Int32 → Int32 → Int32 → Int32 → Int32 → Int32 → Int32 → Int32 → Int32 → Int32 → Int32 → Option (Unit × SG)) (σ : SG) (l1 : Int32) (l2 : Int32) (l3 : Int32) (l4 : Int32) (l5 : Int32) (l6 : Int32) (l7 : Int32) (l8 : Int32) (l9 : Int32) (l10 : Int32) (l11 : Int32) : Option (Unit × SG) :=
  if 4 < l11 then (m_X12_reachEnds_456   c17 c32 σ l1 l2 l3 l4 l5 l6 l7) else (if l7 ≤ 0 then (m_X12_reachEnds_456   c17 c32 σ l1 l2 l3 l4 l5 l6 l7) else (if l6 < l11 then (m_X12_reachEnds_456   c17 c32 σ l1 l2 l3 l4 l5 l6 l7) else (bi (m_X12_pair  σ ((l4 + l6) - l11) ((l5 + l7) - 1) l2) (fun v62 σ63 => lS (l9 + v62) (fun v65 => gB (inB ((l4 + l6) - l11) 216) (lS (l10 + (σ63.1 2 ((l4 + l6) - l11).toNatClampNeg)) (fun v68 => lS ((l8 - (l3 * l11)) - 1) (fun v70 => gB (inB v70 325) (gB (inB 1 8) (gB (inB ((l5 + l7) - 1) 216) (lS (if 0 ≤ (v68 - (σ63.1 2 ((l5 + l7) - 1).toNatClampNeg)) then (v68 - (σ63.1 2 ((l5 + l7) - 1).toNatClampNeg)) else 0 - (v68 - (σ63.1 2 ((l5 + l7) - 1).toNatClampNeg))) (fun v75 => gB (inB v70 325) (bi (m_X12_better  σ63 l8 (((σ63.1 12 v70.toNatClampNeg) + ((σ63.1 4 (1 : Int32).toNatClampNeg) * v75)) + v65) (σ63.1 13 v70.toNatClampNeg)) (fun v78 σ79 => lS (l11 + 1) (fun v81 => c329 σ79 l1 l2 l3 l4 l5 l6 l7 l8 v65 v68 v81)))))))))))))))
def m_X12_reachEnds_329   (c17 : SG → Int32 → Int32 → Int32 → Int32 → Int32 → Int32 → Option (Unit × SG)) (c32 : SG → Int32 → Int32 → Int32 → Int32 → Int32 → Int32 → Int32 → Option (Unit × SG)) : Nat → SG → Int32 → Int32 → Int32 → Int32 → Int32 → Int32 → Int32 → Int32 → Int32 → Int32 → Int32 → Option (Unit × SG)
  | 0, _, _, _, _, _, _, _, _, _, _, _, _ => none
  | n + 1, σ, l1, l2, l3, l4, l5, l6, l7, l8, l9, l10, l11 => m_X12_reachEnds_329_s   c17 c32 (m_X12_reachEnds_329   c17 c32 n) σ l1 l2 l3 l4 l5 l6 l7 l8 l9 l10 l11
set_option maxHeartbeats 4000000 in
set_option maxRecDepth 100000 in
theorem kb_X12_reachEnds_329 {p : Program} {l : Launch} {e : Env} {s : State} {m : MethodId} {args : Array Value} {below : List Frame} {meth : Method} {c : Code} {E : EF} (Z : ZT)    (C : cy p s m args meth c cX12_reachEnds none 13 RX12 wsX12_reachEnds E (zD Z) vwCl 24 (za Z) (tysM Z)) {res : Unit × SG} {c17 : SG → Int32 → Int32 → Int32 → Int32 → Int32 → Int32 → Option (Unit × SG)} {c32 : SG → Int32 → Int32 → Int32 → Int32 → Int32 → Int32 → Int32 → Option (Unit × SG)} (hc17 : ∀ (σ : SG) (l1 : Int32) (l2 : Int32) (l3 : Int32) (l4 : Int32) (l5 : Int32) (l6 : Int32) , c17 σ l1 l2 l3 l4 l5 l6 = some res → ∀ (H : Heap) (locs : List Loc), ws_P (zD Z) vwCl 24 (za Z) (tM Z) σ H → va_S (ws_A 24 (za Z)) s.heap H locs → ∀ (ls : Array Slot), lv_has ls 13 [(0, .ref (za Z 0)), (1, .int l1), (2, .int l2), (3, .int l3), (4, .int l4), (5, .int l5), (6, .int l6)] → W p l e rm_X12_reachEnds s m args below meth c H locs 0 0 (MQ below (xQv E (zD Z) vwCl 24 (za Z) (tM Z) (tysM Z) res) args s 0 0 (ws_A 24 (za Z))) (F0 m 17 ls [])) (hc32 : ∀ (σ : SG) (l1 : Int32) (l2 : Int32) (l3 : Int32) (l4 : Int32) (l5 : Int32) (l6 : Int32) (l7 : Int32) , c32 σ l1 l2 l3 l4 l5 l6 l7 = some res → ∀ (H : Heap) (locs : List Loc), ws_P (zD Z) vwCl 24 (za Z) (tM Z) σ H → va_S (ws_A 24 (za Z)) s.heap H locs → ∀ (ls : Array Slot), lv_has ls 13 [(0, .ref (za Z 0)), (1, .int l1), (2, .int l2), (3, .int l3), (4, .int l4), (5, .int l5), (6, .int l6), (7, .int l7)] → W p l e rm_X12_reachEnds s m args below meth c H locs 0 0 (MQ below (xQv E (zD Z) vwCl 24 (za Z) (tM Z) (tysM Z) res) args s 0 0 (ws_A 24 (za Z))) (F0 m 32 ls [])) : ∀ (n : Nat) (σ : SG) (l1 : Int32) (l2 : Int32) (l3 : Int32) (l4 : Int32) (l5 : Int32) (l6 : Int32) (l7 : Int32) (l8 : Int32) (l9 : Int32) (l10 : Int32) (l11 : Int32) , m_X12_reachEnds_329   c17 c32 n σ l1 l2 l3 l4 l5 l6 l7 l8 l9 l10 l11 = some res → ∀ (H : Heap) (locs : List Loc), ws_P (zD Z) vwCl 24 (za Z) (tM Z) σ H → va_S (ws_A 24 (za Z)) s.heap H locs → ∀ (ls : Array Slot), lv_has ls 13 [(0, .ref (za Z 0)), (1, .int l1), (2, .int l2), (3, .int l3), (4, .int l4), (5, .int l5), (6, .int l6), (7, .int l7), (8, .int l8), (9, .int l9), (10, .int l10), (11, .int l11)] → W p l e rm_X12_reachEnds s m args below meth c H locs 0 0 (MQ below (xQv E (zD Z) vwCl 24 (za Z) (tM Z) (tysM Z) res) args s 0 0 (ws_A 24 (za Z))) (F0 m 329 ls []) := by
  have C0 := C
  obtain ⟨hx, hb, hr, hlocks, hml, hown, hts, hE, hJ, hK⟩ := C0
  intro n
  induction n with
  | zero =>
    intro σ l1 l2 l3 l4 l5 l6 l7 l8 l9 l10 l11  h
    cases h
  | succ n ih =>
    intro σ l1 l2 l3 l4 l5 l6 l7 l8 l9 l10 l11  h H locs hP hS ls hl
    have hc329 : ∀ (σ : SG) (l1 : Int32) (l2 : Int32) (l3 : Int32) (l4 : Int32) (l5 : Int32) (l6 : Int32) (l7 : Int32) (l8 : Int32) (l9 : Int32) (l10 : Int32) (l11 : Int32) , m_X12_reachEnds_329   c17 c32 n σ l1 l2 l3 l4 l5 l6 l7 l8 l9 l10 l11 = some res → ∀ (H : Heap) (locs : List Loc), ws_P (zD Z) vwCl 24 (za Z) (tM Z) σ H → va_S (ws_A 24 (za Z)) s.heap H locs → ∀ (ls : Array Slot), lv_has ls 13 [(0, .ref (za Z 0)), (1, .int l1), (2, .int l2), (3, .int l3), (4, .int l4), (5, .int l5), (6, .int l6), (7, .int l7), (8, .int l8), (9, .int l9), (10, .int l10), (11, .int l11)] → W p l e rm_X12_reachEnds s m args below meth c H locs 0 0 (MQ below (xQv E (zD Z) vwCl 24 (za Z) (tM Z) (tysM Z) res) args s 0 0 (ws_A 24 (za Z))) (F0 m 329 ls []) := ih
    have h : m_X12_reachEnds_329_s   c17 c32 (m_X12_reachEnds_329   c17 c32 n) σ l1 l2 l3 l4 l5 l6 l7 l8 l9 l10 l11 = some res := h
    unfold m_X12_reachEnds_329_s at h
    refine lv_iload hx hb dX12_reachEnds_329 (lv_at hl 11 rfl) ?_
    refine lv_iconst (v := 4) hx hb dX12_reachEnds_331 (by decide) ?_
    refine lv_icmp_gt (tgt := 456) hx hb dX12_reachEnds_332 (by decide) (fun q59 => ?_) (fun q59 => ?_)
    · have h := if_p h q59
      exact kb_X12_reachEnds_456 Z    C  hc17 hc32 σ l1 l2 l3 l4 l5 l6 l7 h H locs hP hS ls (lv_sub hl [0, 1, 2, 3, 4, 5, 6, 7] rfl)
    · have h := if_n h q59
      refine lv_iload hx hb dX12_reachEnds_335 (lv_at hl 7 rfl) ?_
      refine lv_if_le (tgt := 456) hx hb dX12_reachEnds_337 (by decide) (fun q60 => ?_) (fun q60 => ?_)
      · have h := if_p h q60
        exact kb_X12_reachEnds_456 Z    C  hc17 hc32 σ l1 l2 l3 l4 l5 l6 l7 h H locs hP hS ls (lv_sub hl [0, 1, 2, 3, 4, 5, 6, 7] rfl)
      · have h := if_n h q60
        refine lv_iload hx hb dX12_reachEnds_340 (lv_at hl 11 rfl) ?_
        refine lv_iload hx hb dX12_reachEnds_342 (lv_at hl 6 rfl) ?_
        refine lv_icmp_gt (tgt := 456) hx hb dX12_reachEnds_344 (by decide) (fun q61 => ?_) (fun q61 => ?_)
        · have h := if_p h q61
          exact kb_X12_reachEnds_456 Z    C  hc17 hc32 σ l1 l2 l3 l4 l5 l6 l7 h H locs hP hS ls (lv_sub hl [0, 1, 2, 3, 4, 5, 6, 7] rfl)
        · have h := if_n h q61
          refine lv_iload hx hb dX12_reachEnds_347 (lv_at hl 9 rfl) ?_
          refine lv_aload_n hx hb dX12_reachEnds_349 rfl (lv_at hl 0 rfl) ?_
          refine lv_iload hx hb dX12_reachEnds_350 (lv_at hl 4 rfl) ?_
          refine lv_iload hx hb dX12_reachEnds_352 (lv_at hl 6 rfl) ?_
          refine lv_iadd hx hb dX12_reachEnds_354 ?_
          refine lv_iload hx hb dX12_reachEnds_355 (lv_at hl 11 rfl) ?_
          refine lv_isub hx hb dX12_reachEnds_357 ?_
          refine lv_iload hx hb dX12_reachEnds_358 (lv_at hl 5 rfl) ?_
          refine lv_iload hx hb dX12_reachEnds_360 (lv_at hl 7 rfl) ?_
          refine lv_iadd hx hb dX12_reachEnds_362 ?_
          refine lv_iconst (v := 1) hx hb dX12_reachEnds_363 (by decide) ?_
          refine lv_isub hx hb dX12_reachEnds_364 ?_
          refine lv_iload_n hx hb dX12_reachEnds_365 rfl (lv_at hl 2 rfl) ?_
          obtain ⟨v62, σ63, hm64, h⟩ := bi_e h
          refine xr_calli (res := (v62, σ63)) (va_runV (As := [.int ((l4 + l6) - l11), .int ((l5 + l7) - 1), .int l2]) (rest := [.int l9]) ⟨hx, hb, hml, hown, hts⟩ (k_X12_pair l Z   σ ((l4 + l6) - l11) ((l5 + l7) - 1) l2 hm64) (cwV 3 hts gX12_reachEnds_X12_pair rfl rfl rfl (by decide +kernel) ⟨Nat.le_of_ble_eq_true rfl, Nat.le_of_ble_eq_true rfl⟩) ⟨wx_blind, wr_recv hK hP (k := 0) (by decide) ((tM_0 Z) _ _ _) rfl, fun U hU hW => ⟨rfl, wx_at hE hJ hP hK hS hU hW⟩⟩ rfl rfl hl.1 rfl (lv_room (Nat.le_of_ble_eq_true rfl)) dX12_reachEnds_366 ⟨Nat.le_of_ble_eq_true rfl, Nat.le_of_ble_eq_true rfl⟩) hS (fun H locs hP hS => ?_)
          have hP : ws_P (zD Z) vwCl 24 (za Z) (tM Z) σ63 H := hP
          refine lv_iadd hx hb dX12_reachEnds_369 ?_
          refine lv_topi (fun v65 e66 => ?_)
          have h := lS_u h e66
          refine lv_istore (lv' := [(9, .int v65), (0, .ref (za Z 0)), (1, .int l1), (2, .int l2), (3, .int l3), (4, .int l4), (5, .int l5), (6, .int l6), (7, .int l7), (8, .int l8), (10, .int l10), (11, .int l11)]) hx hb dX12_reachEnds_370 hl (by decide) rfl (fun ls hl => ?_)
          refine lv_iload hx hb dX12_reachEnds_372 (lv_at hl 10 rfl) ?_
          refine lv_aload_n hx hb dX12_reachEnds_374 rfl (lv_at hl 1 rfl) ?_
          refine wr_get (C := RX12) (T := TX12) (N := 41) hx hb hts (in_X12_reachEnds_X12) hown hK hP (k := 0) (by decide) ((tM_0 Z) _ _ _) rfl 2 (by decide) (hts (.fieldLink RX12 15 "TuneSearchModel" "length" "[I") (by decide +kernel)) (fun _ h9 => h9) rfl dX12_reachEnds_375 ?_
          refine lv_iload hx hb dX12_reachEnds_378 (lv_at hl 5 rfl) ?_
          refine lv_iload hx hb dX12_reachEnds_380 (lv_at hl 7 rfl) ?_
          refine lv_iadd hx hb dX12_reachEnds_382 ?_
          refine lv_iload hx hb dX12_reachEnds_383 (lv_at hl 11 rfl) ?_
          refine lv_isub hx hb dX12_reachEnds_385 ?_
          obtain ⟨b67, h⟩ := gB_e h
          refine wr_iald hx hb hK hP (k := 2) (by decide) 0 ((tM_2 Z) _ _ _) rfl b67 dX12_reachEnds_386 ?_
          refine lv_iadd hx hb dX12_reachEnds_387 ?_
          refine lv_topi (fun v68 e69 => ?_)
          have h := lS_u h e69
          refine lv_istore (lv' := [(10, .int v68), (9, .int v65), (0, .ref (za Z 0)), (1, .int l1), (2, .int l2), (3, .int l3), (4, .int l4), (5, .int l5), (6, .int l6), (7, .int l7), (8, .int l8), (11, .int l11)]) hx hb dX12_reachEnds_388 hl (by decide) rfl (fun ls hl => ?_)
          refine lv_iload hx hb dX12_reachEnds_390 (lv_at hl 10 rfl) ?_
          refine lv_iload_n hx hb dX12_reachEnds_392 rfl (lv_at hl 5 rfl) ?_
          refine lv_iload hx hb dX12_reachEnds_393 (lv_at hl 11 rfl) ?_
          refine lv_imul hx hb dX12_reachEnds_395 ?_
          refine lv_isub hx hb dX12_reachEnds_396 ?_
          refine lv_iconst (v := 1) hx hb dX12_reachEnds_397 (by decide) ?_
          refine lv_isub hx hb dX12_reachEnds_398 ?_
          refine lv_topi (fun v70 e71 => ?_)
          have h := lS_u h e71
          refine lv_istore (lv' := [(12, .int v70), (10, .int v68), (9, .int v65), (0, .ref (za Z 0)), (1, .int l1), (2, .int l2), (3, .int l3), (4, .int l4), (5, .int l5), (6, .int l6), (7, .int l7), (8, .int l8), (11, .int l11)]) hx hb dX12_reachEnds_399 hl (by decide) rfl (fun ls hl => ?_)
          refine lv_aload_n hx hb dX12_reachEnds_401 rfl (lv_at hl 3 rfl) ?_
          refine lv_iload hx hb dX12_reachEnds_402 (lv_at hl 11 rfl) ?_
          refine lv_aload_n hx hb dX12_reachEnds_404 rfl (lv_at hl 3 rfl) ?_
          refine wr_get (C := RX12) (T := TX12) (N := 41) hx hb hts (in_X12_reachEnds_X12) hown hK hP (k := 0) (by decide) ((tM_0 Z) _ _ _) rfl 27 (by decide) (hts (.fieldLink RX12 50 "TuneSearchModel" "behindCost" "[I") (by decide +kernel)) (fun _ h9 => h9) rfl dX12_reachEnds_405 ?_
          refine lv_iload hx hb dX12_reachEnds_408 (lv_at hl 0 rfl) ?_
          obtain ⟨b72, h⟩ := gB_e h
          refine wr_iald hx hb hK hP (k := 12) (by decide) 0 ((tM_12 Z) _ _ _) rfl b72 dX12_reachEnds_410 ?_
          refine lv_aload_n hx hb dX12_reachEnds_411 rfl (lv_at hl 3 rfl) ?_
          refine wr_get (C := RX12) (T := TX12) (N := 41) hx hb hts (in_X12_reachEnds_X12) hown hK hP (k := 0) (by decide) ((tM_0 Z) _ _ _) rfl 5 (by decide) (hts (.fieldLink RX12 21 "TuneSearchModel" "prices" "[I") (by decide +kernel)) (fun _ h9 => h9) rfl dX12_reachEnds_412 ?_
          refine lv_iconst (v := 1) hx hb dX12_reachEnds_415 (by decide) ?_
          obtain ⟨b73, h⟩ := gB_e h
          refine wr_iald hx hb hK hP (k := 4) (by decide) 0 ((tM_4 Z) _ _ _) rfl b73 dX12_reachEnds_416 ?_
          refine lv_iload hx hb dX12_reachEnds_417 (lv_at hl 1 rfl) ?_
          refine lv_aload_n hx hb dX12_reachEnds_419 rfl (lv_at hl 3 rfl) ?_
          refine wr_get (C := RX12) (T := TX12) (N := 41) hx hb hts (in_X12_reachEnds_X12) hown hK hP (k := 0) (by decide) ((tM_0 Z) _ _ _) rfl 2 (by decide) (hts (.fieldLink RX12 15 "TuneSearchModel" "length" "[I") (by decide +kernel)) (fun _ h9 => h9) rfl dX12_reachEnds_420 ?_
          refine lv_iload hx hb dX12_reachEnds_423 (lv_at hl 8 rfl) ?_
          refine lv_iload hx hb dX12_reachEnds_425 (lv_at hl 10 rfl) ?_
          refine lv_iadd hx hb dX12_reachEnds_427 ?_
          refine lv_iconst (v := 1) hx hb dX12_reachEnds_428 (by decide) ?_
          refine lv_isub hx hb dX12_reachEnds_429 ?_
          obtain ⟨b74, h⟩ := gB_e h
          refine wr_iald hx hb hK hP (k := 2) (by decide) 0 ((tM_2 Z) _ _ _) rfl b74 dX12_reachEnds_430 ?_
          refine lv_isub hx hb dX12_reachEnds_431 ?_
          refine va_mabs hx hb (by rw [hml]; exact hl.1.symm) hown (hts (.methodLink RX12 220 Lib.Math.abs.name) (by decide +kernel)) (hts (.static Lib.Math.abs.name) (by decide +kernel)) (hts (.initialized "java/lang/Math") (by decide +kernel)) (hts (.code Lib.Math.abs.name Lib.Math.abs.code 1 (some .int)) (by decide +kernel)) (Nat.le_of_ble_eq_true rfl) (Nat.le_of_ble_eq_true rfl) (Nat.le_of_ble_eq_true rfl) (Nat.le_of_ble_eq_true rfl) dX12_reachEnds_432 ?_
          refine lv_topi (fun v75 e76 => ?_)
          have h := lS_u h e76
          refine lv_imul hx hb dX12_reachEnds_435 ?_
          refine lv_iadd hx hb dX12_reachEnds_436 ?_
          refine lv_iload hx hb dX12_reachEnds_437 (lv_at hl 2 rfl) ?_
          refine lv_iadd hx hb dX12_reachEnds_439 ?_
          refine lv_aload_n hx hb dX12_reachEnds_440 rfl (lv_at hl 3 rfl) ?_
          refine wr_get (C := RX12) (T := TX12) (N := 41) hx hb hts (in_X12_reachEnds_X12) hown hK hP (k := 0) (by decide) ((tM_0 Z) _ _ _) rfl 28 (by decide) (hts (.fieldLink RX12 53 "TuneSearchModel" "behindFrom" "[I") (by decide +kernel)) (fun _ h9 => h9) rfl dX12_reachEnds_441 ?_
          refine lv_iload hx hb dX12_reachEnds_444 (lv_at hl 0 rfl) ?_
          obtain ⟨b77, h⟩ := gB_e h
          refine wr_iald hx hb hK hP (k := 13) (by decide) 0 ((tM_13 Z) _ _ _) rfl b77 dX12_reachEnds_446 ?_
          obtain ⟨v78, σ79, hm80, h⟩ := bi_e h
          refine xr_callv (res := (v78, σ79)) (va_runV (As := [.int l8, .int (((σ63.1 12 v70.toNatClampNeg) + ((σ63.1 4 (1 : Int32).toNatClampNeg) * v75)) + v65), .int (σ63.1 13 v70.toNatClampNeg)]) (rest := []) ⟨hx, hb, hml, hown, hts⟩ (k_X12_better l Z   σ63 l8 (((σ63.1 12 v70.toNatClampNeg) + ((σ63.1 4 (1 : Int32).toNatClampNeg) * v75)) + v65) (σ63.1 13 v70.toNatClampNeg) hm80) (cwV 3 hts gX12_reachEnds_X12_better rfl rfl rfl (by decide +kernel) ⟨Nat.le_of_ble_eq_true rfl, Nat.le_of_ble_eq_true rfl⟩) ⟨wx_blind, wr_recv hK hP (k := 0) (by decide) ((tM_0 Z) _ _ _) rfl, fun U hU hW => ⟨rfl, wx_at hE hJ hP hK hS hU hW⟩⟩ rfl rfl hl.1 rfl (lv_room (Nat.le_of_ble_eq_true rfl)) dX12_reachEnds_447 ⟨Nat.le_of_ble_eq_true rfl, Nat.le_of_ble_eq_true rfl⟩) hS (fun H locs hP hS => ?_)
          have hP : ws_P (zD Z) vwCl 24 (za Z) (tM Z) σ79 H := hP
          obtain ⟨v81, e82, h⟩ := lS_e h
          refine lv_iinc (v := v81) (lv' := [(11, .int v81), (12, .int v70), (10, .int v68), (9, .int v65), (0, .ref (za Z 0)), (1, .int l1), (2, .int l2), (3, .int l3), (4, .int l4), (5, .int l5), (6, .int l6), (7, .int l7), (8, .int l8)]) hx hb dX12_reachEnds_450 hl (k := 12) rfl (by rw [e82]; rfl) (by decide) rfl (fun ls hl => ?_)
          refine lv_goto (tgt := 329) hx hb dX12_reachEnds_453 (by decide) ?_
          exact hc329 σ79 l1 l2 l3 l4 l5 l6 l7 l8 v65 v68 v81 h H locs hP hS ls (lv_sub hl [4, 5, 6, 7, 8, 9, 10, 11, 12, 3, 2, 0] rfl)
def m_X12_reachEnds_320   (c17 : SG → Int32 → Int32 → Int32 → Int32 → Int32 → Int32 → Option (Unit × SG)) (c32 : SG → Int32 → Int32 → Int32 → Int32 → Int32 → Int32 → Int32 → Option (Unit × SG)) (σ : SG) (l1 : Int32) (l2 : Int32) (l3 : Int32) (l4 : Int32) (l5 : Int32) (l6 : Int32) (l7 : Int32) (l8 : Int32) : Option (Unit × SG) :=
  m_X12_reachEnds_329   c17 c32 FV σ l1 l2 l3 l4 l5 l6 l7 l8 0 0 1
set_option maxHeartbeats 4000000 in
set_option maxRecDepth 100000 in
theorem kb_X12_reachEnds_320 {p : Program} {l : Launch} {e : Env} {s : State} {m : MethodId} {args : Array Value} {below : List Frame} {meth : Method} {c : Code} {E : EF} (Z : ZT)    (C : cy p s m args meth c cX12_reachEnds none 13 RX12 wsX12_reachEnds E (zD Z) vwCl 24 (za Z) (tysM Z)) {res : Unit × SG} {c17 : SG → Int32 → Int32 → Int32 → Int32 → Int32 → Int32 → Option (Unit × SG)} {c32 : SG → Int32 → Int32 → Int32 → Int32 → Int32 → Int32 → Int32 → Option (Unit × SG)} (hc17 : ∀ (σ : SG) (l1 : Int32) (l2 : Int32) (l3 : Int32) (l4 : Int32) (l5 : Int32) (l6 : Int32) , c17 σ l1 l2 l3 l4 l5 l6 = some res → ∀ (H : Heap) (locs : List Loc), ws_P (zD Z) vwCl 24 (za Z) (tM Z) σ H → va_S (ws_A 24 (za Z)) s.heap H locs → ∀ (ls : Array Slot), lv_has ls 13 [(0, .ref (za Z 0)), (1, .int l1), (2, .int l2), (3, .int l3), (4, .int l4), (5, .int l5), (6, .int l6)] → W p l e rm_X12_reachEnds s m args below meth c H locs 0 0 (MQ below (xQv E (zD Z) vwCl 24 (za Z) (tM Z) (tysM Z) res) args s 0 0 (ws_A 24 (za Z))) (F0 m 17 ls [])) (hc32 : ∀ (σ : SG) (l1 : Int32) (l2 : Int32) (l3 : Int32) (l4 : Int32) (l5 : Int32) (l6 : Int32) (l7 : Int32) , c32 σ l1 l2 l3 l4 l5 l6 l7 = some res → ∀ (H : Heap) (locs : List Loc), ws_P (zD Z) vwCl 24 (za Z) (tM Z) σ H → va_S (ws_A 24 (za Z)) s.heap H locs → ∀ (ls : Array Slot), lv_has ls 13 [(0, .ref (za Z 0)), (1, .int l1), (2, .int l2), (3, .int l3), (4, .int l4), (5, .int l5), (6, .int l6), (7, .int l7)] → W p l e rm_X12_reachEnds s m args below meth c H locs 0 0 (MQ below (xQv E (zD Z) vwCl 24 (za Z) (tM Z) (tysM Z) res) args s 0 0 (ws_A 24 (za Z))) (F0 m 32 ls [])) : ∀ (σ : SG) (l1 : Int32) (l2 : Int32) (l3 : Int32) (l4 : Int32) (l5 : Int32) (l6 : Int32) (l7 : Int32) (l8 : Int32) , m_X12_reachEnds_320   c17 c32 σ l1 l2 l3 l4 l5 l6 l7 l8 = some res → ∀ (H : Heap) (locs : List Loc), ws_P (zD Z) vwCl 24 (za Z) (tM Z) σ H → va_S (ws_A 24 (za Z)) s.heap H locs → ∀ (ls : Array Slot), lv_has ls 13 [(0, .ref (za Z 0)), (1, .int l1), (2, .int l2), (3, .int l3), (4, .int l4), (5, .int l5), (6, .int l6), (7, .int l7), (8, .int l8)] → W p l e rm_X12_reachEnds s m args below meth c H locs 0 0 (MQ below (xQv E (zD Z) vwCl 24 (za Z) (tM Z) (tysM Z) res) args s 0 0 (ws_A 24 (za Z))) (F0 m 320 ls []) := by
  have C0 := C
  obtain ⟨hx, hb, hr, hlocks, hml, hown, hts, hE, hJ, hK⟩ := C0
  intro σ l1 l2 l3 l4 l5 l6 l7 l8  h H locs hP hS ls hl
  unfold m_X12_reachEnds_320 at h
  refine lv_iconst (v := 0) hx hb dX12_reachEnds_320 (by decide) ?_
  refine lv_istore (lv' := [(9, .int 0), (0, .ref (za Z 0)), (1, .int l1), (2, .int l2), (3, .int l3), (4, .int l4), (5, .int l5), (6, .int l6), (7, .int l7), (8, .int l8)]) hx hb dX12_reachEnds_321 hl (by decide) rfl (fun ls hl => ?_)
  refine lv_iconst (v := 0) hx hb dX12_reachEnds_323 (by decide) ?_
  refine lv_istore (lv' := [(10, .int 0), (9, .int 0), (0, .ref (za Z 0)), (1, .int l1), (2, .int l2), (3, .int l3), (4, .int l4), (5, .int l5), (6, .int l6), (7, .int l7), (8, .int l8)]) hx hb dX12_reachEnds_324 hl (by decide) rfl (fun ls hl => ?_)
  refine lv_iconst (v := 1) hx hb dX12_reachEnds_326 (by decide) ?_
  refine lv_istore (lv' := [(11, .int 1), (10, .int 0), (9, .int 0), (0, .ref (za Z 0)), (1, .int l1), (2, .int l2), (3, .int l3), (4, .int l4), (5, .int l5), (6, .int l6), (7, .int l7), (8, .int l8)]) hx hb dX12_reachEnds_327 hl (by decide) rfl (fun ls hl => ?_)
  exact kb_X12_reachEnds_329 Z    C  hc17 hc32 FV σ l1 l2 l3 l4 l5 l6 l7 l8 0 0 1 h H locs hP hS ls (lv_sub hl [3, 4, 5, 6, 7, 8, 9, 10, 11, 2, 1, 0] rfl)
def m_X12_reachEnds_195_s   (c17 : SG → Int32 → Int32 → Int32 → Int32 → Int32 → Int32 → Option (Unit × SG)) (c32 : SG → Int32 → Int32 → Int32 → Int32 → Int32 → Int32 → Int32 → Option (Unit × SG)) (c195 : SG → Int32 → Int32 → Int32 → Int32 → Int32 → Int32 → Int32 → Int32 → Int32 → Int32 → Int32 → Option (Unit × SG)) (σ : SG) (l1 : Int32) (l2 : Int32) (l3 : Int32) (l4 : Int32) (l5 : Int32) (l6 : Int32) (l7 : Int32) (l8 : Int32) (l9 : Int32) (l10 : Int32) (l11 : Int32) : Option (Unit × SG) :=
  if 4 < l11 then (m_X12_reachEnds_320   c17 c32 σ l1 l2 l3 l4 l5 l6 l7 l8) else (if l6 ≤ 0 then (m_X12_reachEnds_320   c17 c32 σ l1 l2 l3 l4 l5 l6 l7 l8) else (if l7 < l11 then (m_X12_reachEnds_320   c17 c32 σ l1 l2 l3 l4 l5 l6 l7 l8) else (bi (m_X12_pair  σ ((l4 + l6) - 1) ((l5 + l7) - l11) l2) (fun v38 σ39 => lS (l9 + v38) (fun v41 => gB (inB ((l5 + l7) - l11) 216) (lS (l10 + (σ39.1 2 ((l5 + l7) - l11).toNatClampNeg)) (fun v44 => lS ((l8 - l3) - l11) (fun v46 => gB (inB v46 325) (gB (inB 1 8) (gB (inB ((l4 + l6) - 1) 216) (lS (if 0 ≤ ((σ39.1 2 ((l4 + l6) - 1).toNatClampNeg) - v44) then ((σ39.1 2 ((l4 + l6) - 1).toNatClampNeg) - v44) else 0 - ((σ39.1 2 ((l4 + l6) - 1).toNatClampNeg) - v44)) (fun v51 => gB (inB v46 325) (bi (m_X12_better  σ39 l8 (((σ39.1 12 v46.toNatClampNeg) + ((σ39.1 4 (1 : Int32).toNatClampNeg) * v51)) + v41) (σ39.1 13 v46.toNatClampNeg)) (fun v54 σ55 => lS (l11 + 1) (fun v57 => c195 σ55 l1 l2 l3 l4 l5 l6 l7 l8 v41 v44 v57)))))))))))))))
def m_X12_reachEnds_195   (c17 : SG → Int32 → Int32 → Int32 → Int32 → Int32 → Int32 → Option (Unit × SG)) (c32 : SG → Int32 → Int32 → Int32 → Int32 → Int32 → Int32 → Int32 → Option (Unit × SG)) : Nat → SG → Int32 → Int32 → Int32 → Int32 → Int32 → Int32 → Int32 → Int32 → Int32 → Int32 → Int32 → Option (Unit × SG)
  | 0, _, _, _, _, _, _, _, _, _, _, _, _ => none
  | n + 1, σ, l1, l2, l3, l4, l5, l6, l7, l8, l9, l10, l11 => m_X12_reachEnds_195_s   c17 c32 (m_X12_reachEnds_195   c17 c32 n) σ l1 l2 l3 l4 l5 l6 l7 l8 l9 l10 l11
set_option maxHeartbeats 4000000 in
set_option maxRecDepth 100000 in
theorem kb_X12_reachEnds_195 {p : Program} {l : Launch} {e : Env} {s : State} {m : MethodId} {args : Array Value} {below : List Frame} {meth : Method} {c : Code} {E : EF} (Z : ZT)    (C : cy p s m args meth c cX12_reachEnds none 13 RX12 wsX12_reachEnds E (zD Z) vwCl 24 (za Z) (tysM Z)) {res : Unit × SG} {c17 : SG → Int32 → Int32 → Int32 → Int32 → Int32 → Int32 → Option (Unit × SG)} {c32 : SG → Int32 → Int32 → Int32 → Int32 → Int32 → Int32 → Int32 → Option (Unit × SG)} (hc17 : ∀ (σ : SG) (l1 : Int32) (l2 : Int32) (l3 : Int32) (l4 : Int32) (l5 : Int32) (l6 : Int32) , c17 σ l1 l2 l3 l4 l5 l6 = some res → ∀ (H : Heap) (locs : List Loc), ws_P (zD Z) vwCl 24 (za Z) (tM Z) σ H → va_S (ws_A 24 (za Z)) s.heap H locs → ∀ (ls : Array Slot), lv_has ls 13 [(0, .ref (za Z 0)), (1, .int l1), (2, .int l2), (3, .int l3), (4, .int l4), (5, .int l5), (6, .int l6)] → W p l e rm_X12_reachEnds s m args below meth c H locs 0 0 (MQ below (xQv E (zD Z) vwCl 24 (za Z) (tM Z) (tysM Z) res) args s 0 0 (ws_A 24 (za Z))) (F0 m 17 ls [])) (hc32 : ∀ (σ : SG) (l1 : Int32) (l2 : Int32) (l3 : Int32) (l4 : Int32) (l5 : Int32) (l6 : Int32) (l7 : Int32) , c32 σ l1 l2 l3 l4 l5 l6 l7 = some res → ∀ (H : Heap) (locs : List Loc), ws_P (zD Z) vwCl 24 (za Z) (tM Z) σ H → va_S (ws_A 24 (za Z)) s.heap H locs → ∀ (ls : Array Slot), lv_has ls 13 [(0, .ref (za Z 0)), (1, .int l1), (2, .int l2), (3, .int l3), (4, .int l4), (5, .int l5), (6, .int l6), (7, .int l7)] → W p l e rm_X12_reachEnds s m args below meth c H locs 0 0 (MQ below (xQv E (zD Z) vwCl 24 (za Z) (tM Z) (tysM Z) res) args s 0 0 (ws_A 24 (za Z))) (F0 m 32 ls [])) : ∀ (n : Nat) (σ : SG) (l1 : Int32) (l2 : Int32) (l3 : Int32) (l4 : Int32) (l5 : Int32) (l6 : Int32) (l7 : Int32) (l8 : Int32) (l9 : Int32) (l10 : Int32) (l11 : Int32) , m_X12_reachEnds_195   c17 c32 n σ l1 l2 l3 l4 l5 l6 l7 l8 l9 l10 l11 = some res → ∀ (H : Heap) (locs : List Loc), ws_P (zD Z) vwCl 24 (za Z) (tM Z) σ H → va_S (ws_A 24 (za Z)) s.heap H locs → ∀ (ls : Array Slot), lv_has ls 13 [(0, .ref (za Z 0)), (1, .int l1), (2, .int l2), (3, .int l3), (4, .int l4), (5, .int l5), (6, .int l6), (7, .int l7), (8, .int l8), (9, .int l9), (10, .int l10), (11, .int l11)] → W p l e rm_X12_reachEnds s m args below meth c H locs 0 0 (MQ below (xQv E (zD Z) vwCl 24 (za Z) (tM Z) (tysM Z) res) args s 0 0 (ws_A 24 (za Z))) (F0 m 195 ls []) := by
  have C0 := C
  obtain ⟨hx, hb, hr, hlocks, hml, hown, hts, hE, hJ, hK⟩ := C0
  intro n
  induction n with
  | zero =>
    intro σ l1 l2 l3 l4 l5 l6 l7 l8 l9 l10 l11  h
    cases h
  | succ n ih =>
    intro σ l1 l2 l3 l4 l5 l6 l7 l8 l9 l10 l11  h H locs hP hS ls hl
    have hc195 : ∀ (σ : SG) (l1 : Int32) (l2 : Int32) (l3 : Int32) (l4 : Int32) (l5 : Int32) (l6 : Int32) (l7 : Int32) (l8 : Int32) (l9 : Int32) (l10 : Int32) (l11 : Int32) , m_X12_reachEnds_195   c17 c32 n σ l1 l2 l3 l4 l5 l6 l7 l8 l9 l10 l11 = some res → ∀ (H : Heap) (locs : List Loc), ws_P (zD Z) vwCl 24 (za Z) (tM Z) σ H → va_S (ws_A 24 (za Z)) s.heap H locs → ∀ (ls : Array Slot), lv_has ls 13 [(0, .ref (za Z 0)), (1, .int l1), (2, .int l2), (3, .int l3), (4, .int l4), (5, .int l5), (6, .int l6), (7, .int l7), (8, .int l8), (9, .int l9), (10, .int l10), (11, .int l11)] → W p l e rm_X12_reachEnds s m args below meth c H locs 0 0 (MQ below (xQv E (zD Z) vwCl 24 (za Z) (tM Z) (tysM Z) res) args s 0 0 (ws_A 24 (za Z))) (F0 m 195 ls []) := ih
    have h : m_X12_reachEnds_195_s   c17 c32 (m_X12_reachEnds_195   c17 c32 n) σ l1 l2 l3 l4 l5 l6 l7 l8 l9 l10 l11 = some res := h
    unfold m_X12_reachEnds_195_s at h
    refine lv_iload hx hb dX12_reachEnds_195 (lv_at hl 11 rfl) ?_
    refine lv_iconst (v := 4) hx hb dX12_reachEnds_197 (by decide) ?_
    refine lv_icmp_gt (tgt := 320) hx hb dX12_reachEnds_198 (by decide) (fun q35 => ?_) (fun q35 => ?_)
    · have h := if_p h q35
      exact kb_X12_reachEnds_320 Z    C  hc17 hc32 σ l1 l2 l3 l4 l5 l6 l7 l8 h H locs hP hS ls (lv_sub hl [0, 1, 2, 3, 4, 5, 6, 7, 8] rfl)
    · have h := if_n h q35
      refine lv_iload hx hb dX12_reachEnds_201 (lv_at hl 6 rfl) ?_
      refine lv_if_le (tgt := 320) hx hb dX12_reachEnds_203 (by decide) (fun q36 => ?_) (fun q36 => ?_)
      · have h := if_p h q36
        exact kb_X12_reachEnds_320 Z    C  hc17 hc32 σ l1 l2 l3 l4 l5 l6 l7 l8 h H locs hP hS ls (lv_sub hl [0, 1, 2, 3, 4, 5, 6, 7, 8] rfl)
      · have h := if_n h q36
        refine lv_iload hx hb dX12_reachEnds_206 (lv_at hl 11 rfl) ?_
        refine lv_iload hx hb dX12_reachEnds_208 (lv_at hl 7 rfl) ?_
        refine lv_icmp_gt (tgt := 320) hx hb dX12_reachEnds_210 (by decide) (fun q37 => ?_) (fun q37 => ?_)
        · have h := if_p h q37
          exact kb_X12_reachEnds_320 Z    C  hc17 hc32 σ l1 l2 l3 l4 l5 l6 l7 l8 h H locs hP hS ls (lv_sub hl [0, 1, 2, 3, 4, 5, 6, 7, 8] rfl)
        · have h := if_n h q37
          refine lv_iload hx hb dX12_reachEnds_213 (lv_at hl 9 rfl) ?_
          refine lv_aload_n hx hb dX12_reachEnds_215 rfl (lv_at hl 0 rfl) ?_
          refine lv_iload hx hb dX12_reachEnds_216 (lv_at hl 4 rfl) ?_
          refine lv_iload hx hb dX12_reachEnds_218 (lv_at hl 6 rfl) ?_
          refine lv_iadd hx hb dX12_reachEnds_220 ?_
          refine lv_iconst (v := 1) hx hb dX12_reachEnds_221 (by decide) ?_
          refine lv_isub hx hb dX12_reachEnds_222 ?_
          refine lv_iload hx hb dX12_reachEnds_223 (lv_at hl 5 rfl) ?_
          refine lv_iload hx hb dX12_reachEnds_225 (lv_at hl 7 rfl) ?_
          refine lv_iadd hx hb dX12_reachEnds_227 ?_
          refine lv_iload hx hb dX12_reachEnds_228 (lv_at hl 11 rfl) ?_
          refine lv_isub hx hb dX12_reachEnds_230 ?_
          refine lv_iload_n hx hb dX12_reachEnds_231 rfl (lv_at hl 2 rfl) ?_
          obtain ⟨v38, σ39, hm40, h⟩ := bi_e h
          refine xr_calli (res := (v38, σ39)) (va_runV (As := [.int ((l4 + l6) - 1), .int ((l5 + l7) - l11), .int l2]) (rest := [.int l9]) ⟨hx, hb, hml, hown, hts⟩ (k_X12_pair l Z   σ ((l4 + l6) - 1) ((l5 + l7) - l11) l2 hm40) (cwV 3 hts gX12_reachEnds_X12_pair rfl rfl rfl (by decide +kernel) ⟨Nat.le_of_ble_eq_true rfl, Nat.le_of_ble_eq_true rfl⟩) ⟨wx_blind, wr_recv hK hP (k := 0) (by decide) ((tM_0 Z) _ _ _) rfl, fun U hU hW => ⟨rfl, wx_at hE hJ hP hK hS hU hW⟩⟩ rfl rfl hl.1 rfl (lv_room (Nat.le_of_ble_eq_true rfl)) dX12_reachEnds_232 ⟨Nat.le_of_ble_eq_true rfl, Nat.le_of_ble_eq_true rfl⟩) hS (fun H locs hP hS => ?_)
          have hP : ws_P (zD Z) vwCl 24 (za Z) (tM Z) σ39 H := hP
          refine lv_iadd hx hb dX12_reachEnds_235 ?_
          refine lv_topi (fun v41 e42 => ?_)
          have h := lS_u h e42
          refine lv_istore (lv' := [(9, .int v41), (0, .ref (za Z 0)), (1, .int l1), (2, .int l2), (3, .int l3), (4, .int l4), (5, .int l5), (6, .int l6), (7, .int l7), (8, .int l8), (10, .int l10), (11, .int l11)]) hx hb dX12_reachEnds_236 hl (by decide) rfl (fun ls hl => ?_)
          refine lv_iload hx hb dX12_reachEnds_238 (lv_at hl 10 rfl) ?_
          refine lv_aload_n hx hb dX12_reachEnds_240 rfl (lv_at hl 1 rfl) ?_
          refine wr_get (C := RX12) (T := TX12) (N := 41) hx hb hts (in_X12_reachEnds_X12) hown hK hP (k := 0) (by decide) ((tM_0 Z) _ _ _) rfl 2 (by decide) (hts (.fieldLink RX12 15 "TuneSearchModel" "length" "[I") (by decide +kernel)) (fun _ h9 => h9) rfl dX12_reachEnds_241 ?_
          refine lv_iload hx hb dX12_reachEnds_244 (lv_at hl 6 rfl) ?_
          refine lv_iload hx hb dX12_reachEnds_246 (lv_at hl 8 rfl) ?_
          refine lv_iadd hx hb dX12_reachEnds_248 ?_
          refine lv_iload hx hb dX12_reachEnds_249 (lv_at hl 11 rfl) ?_
          refine lv_isub hx hb dX12_reachEnds_251 ?_
          obtain ⟨b43, h⟩ := gB_e h
          refine wr_iald hx hb hK hP (k := 2) (by decide) 0 ((tM_2 Z) _ _ _) rfl b43 dX12_reachEnds_252 ?_
          refine lv_iadd hx hb dX12_reachEnds_253 ?_
          refine lv_topi (fun v44 e45 => ?_)
          have h := lS_u h e45
          refine lv_istore (lv' := [(10, .int v44), (9, .int v41), (0, .ref (za Z 0)), (1, .int l1), (2, .int l2), (3, .int l3), (4, .int l4), (5, .int l5), (6, .int l6), (7, .int l7), (8, .int l8), (11, .int l11)]) hx hb dX12_reachEnds_254 hl (by decide) rfl (fun ls hl => ?_)
          refine lv_iload hx hb dX12_reachEnds_256 (lv_at hl 10 rfl) ?_
          refine lv_iload_n hx hb dX12_reachEnds_258 rfl (lv_at hl 5 rfl) ?_
          refine lv_isub hx hb dX12_reachEnds_259 ?_
          refine lv_iload hx hb dX12_reachEnds_260 (lv_at hl 11 rfl) ?_
          refine lv_isub hx hb dX12_reachEnds_262 ?_
          refine lv_topi (fun v46 e47 => ?_)
          have h := lS_u h e47
          refine lv_istore (lv' := [(12, .int v46), (10, .int v44), (9, .int v41), (0, .ref (za Z 0)), (1, .int l1), (2, .int l2), (3, .int l3), (4, .int l4), (5, .int l5), (6, .int l6), (7, .int l7), (8, .int l8), (11, .int l11)]) hx hb dX12_reachEnds_263 hl (by decide) rfl (fun ls hl => ?_)
          refine lv_aload_n hx hb dX12_reachEnds_265 rfl (lv_at hl 3 rfl) ?_
          refine lv_iload hx hb dX12_reachEnds_266 (lv_at hl 11 rfl) ?_
          refine lv_aload_n hx hb dX12_reachEnds_268 rfl (lv_at hl 3 rfl) ?_
          refine wr_get (C := RX12) (T := TX12) (N := 41) hx hb hts (in_X12_reachEnds_X12) hown hK hP (k := 0) (by decide) ((tM_0 Z) _ _ _) rfl 27 (by decide) (hts (.fieldLink RX12 50 "TuneSearchModel" "behindCost" "[I") (by decide +kernel)) (fun _ h9 => h9) rfl dX12_reachEnds_269 ?_
          refine lv_iload hx hb dX12_reachEnds_272 (lv_at hl 0 rfl) ?_
          obtain ⟨b48, h⟩ := gB_e h
          refine wr_iald hx hb hK hP (k := 12) (by decide) 0 ((tM_12 Z) _ _ _) rfl b48 dX12_reachEnds_274 ?_
          refine lv_aload_n hx hb dX12_reachEnds_275 rfl (lv_at hl 3 rfl) ?_
          refine wr_get (C := RX12) (T := TX12) (N := 41) hx hb hts (in_X12_reachEnds_X12) hown hK hP (k := 0) (by decide) ((tM_0 Z) _ _ _) rfl 5 (by decide) (hts (.fieldLink RX12 21 "TuneSearchModel" "prices" "[I") (by decide +kernel)) (fun _ h9 => h9) rfl dX12_reachEnds_276 ?_
          refine lv_iconst (v := 1) hx hb dX12_reachEnds_279 (by decide) ?_
          obtain ⟨b49, h⟩ := gB_e h
          refine wr_iald hx hb hK hP (k := 4) (by decide) 0 ((tM_4 Z) _ _ _) rfl b49 dX12_reachEnds_280 ?_
          refine lv_aload_n hx hb dX12_reachEnds_281 rfl (lv_at hl 3 rfl) ?_
          refine wr_get (C := RX12) (T := TX12) (N := 41) hx hb hts (in_X12_reachEnds_X12) hown hK hP (k := 0) (by decide) ((tM_0 Z) _ _ _) rfl 2 (by decide) (hts (.fieldLink RX12 15 "TuneSearchModel" "length" "[I") (by decide +kernel)) (fun _ h9 => h9) rfl dX12_reachEnds_282 ?_
          refine lv_iload hx hb dX12_reachEnds_285 (lv_at hl 7 rfl) ?_
          refine lv_iload hx hb dX12_reachEnds_287 (lv_at hl 9 rfl) ?_
          refine lv_iadd hx hb dX12_reachEnds_289 ?_
          refine lv_iconst (v := 1) hx hb dX12_reachEnds_290 (by decide) ?_
          refine lv_isub hx hb dX12_reachEnds_291 ?_
          obtain ⟨b50, h⟩ := gB_e h
          refine wr_iald hx hb hK hP (k := 2) (by decide) 0 ((tM_2 Z) _ _ _) rfl b50 dX12_reachEnds_292 ?_
          refine lv_iload hx hb dX12_reachEnds_293 (lv_at hl 1 rfl) ?_
          refine lv_isub hx hb dX12_reachEnds_295 ?_
          refine va_mabs hx hb (by rw [hml]; exact hl.1.symm) hown (hts (.methodLink RX12 220 Lib.Math.abs.name) (by decide +kernel)) (hts (.static Lib.Math.abs.name) (by decide +kernel)) (hts (.initialized "java/lang/Math") (by decide +kernel)) (hts (.code Lib.Math.abs.name Lib.Math.abs.code 1 (some .int)) (by decide +kernel)) (Nat.le_of_ble_eq_true rfl) (Nat.le_of_ble_eq_true rfl) (Nat.le_of_ble_eq_true rfl) (Nat.le_of_ble_eq_true rfl) dX12_reachEnds_296 ?_
          refine lv_topi (fun v51 e52 => ?_)
          have h := lS_u h e52
          refine lv_imul hx hb dX12_reachEnds_299 ?_
          refine lv_iadd hx hb dX12_reachEnds_300 ?_
          refine lv_iload hx hb dX12_reachEnds_301 (lv_at hl 2 rfl) ?_
          refine lv_iadd hx hb dX12_reachEnds_303 ?_
          refine lv_aload_n hx hb dX12_reachEnds_304 rfl (lv_at hl 3 rfl) ?_
          refine wr_get (C := RX12) (T := TX12) (N := 41) hx hb hts (in_X12_reachEnds_X12) hown hK hP (k := 0) (by decide) ((tM_0 Z) _ _ _) rfl 28 (by decide) (hts (.fieldLink RX12 53 "TuneSearchModel" "behindFrom" "[I") (by decide +kernel)) (fun _ h9 => h9) rfl dX12_reachEnds_305 ?_
          refine lv_iload hx hb dX12_reachEnds_308 (lv_at hl 0 rfl) ?_
          obtain ⟨b53, h⟩ := gB_e h
          refine wr_iald hx hb hK hP (k := 13) (by decide) 0 ((tM_13 Z) _ _ _) rfl b53 dX12_reachEnds_310 ?_
          obtain ⟨v54, σ55, hm56, h⟩ := bi_e h
          refine xr_callv (res := (v54, σ55)) (va_runV (As := [.int l8, .int (((σ39.1 12 v46.toNatClampNeg) + ((σ39.1 4 (1 : Int32).toNatClampNeg) * v51)) + v41), .int (σ39.1 13 v46.toNatClampNeg)]) (rest := []) ⟨hx, hb, hml, hown, hts⟩ (k_X12_better l Z   σ39 l8 (((σ39.1 12 v46.toNatClampNeg) + ((σ39.1 4 (1 : Int32).toNatClampNeg) * v51)) + v41) (σ39.1 13 v46.toNatClampNeg) hm56) (cwV 3 hts gX12_reachEnds_X12_better rfl rfl rfl (by decide +kernel) ⟨Nat.le_of_ble_eq_true rfl, Nat.le_of_ble_eq_true rfl⟩) ⟨wx_blind, wr_recv hK hP (k := 0) (by decide) ((tM_0 Z) _ _ _) rfl, fun U hU hW => ⟨rfl, wx_at hE hJ hP hK hS hU hW⟩⟩ rfl rfl hl.1 rfl (lv_room (Nat.le_of_ble_eq_true rfl)) dX12_reachEnds_311 ⟨Nat.le_of_ble_eq_true rfl, Nat.le_of_ble_eq_true rfl⟩) hS (fun H locs hP hS => ?_)
          have hP : ws_P (zD Z) vwCl 24 (za Z) (tM Z) σ55 H := hP
          obtain ⟨v57, e58, h⟩ := lS_e h
          refine lv_iinc (v := v57) (lv' := [(11, .int v57), (12, .int v46), (10, .int v44), (9, .int v41), (0, .ref (za Z 0)), (1, .int l1), (2, .int l2), (3, .int l3), (4, .int l4), (5, .int l5), (6, .int l6), (7, .int l7), (8, .int l8)]) hx hb dX12_reachEnds_314 hl (k := 12) rfl (by rw [e58]; rfl) (by decide) rfl (fun ls hl => ?_)
          refine lv_goto (tgt := 195) hx hb dX12_reachEnds_317 (by decide) ?_
          exact hc195 σ55 l1 l2 l3 l4 l5 l6 l7 l8 v41 v44 v57 h H locs hP hS ls (lv_sub hl [4, 5, 6, 7, 8, 9, 10, 11, 12, 3, 2, 0] rfl)
def m_X12_reachEnds_186   (c17 : SG → Int32 → Int32 → Int32 → Int32 → Int32 → Int32 → Option (Unit × SG)) (c32 : SG → Int32 → Int32 → Int32 → Int32 → Int32 → Int32 → Int32 → Option (Unit × SG)) (σ : SG) (l1 : Int32) (l2 : Int32) (l3 : Int32) (l4 : Int32) (l5 : Int32) (l6 : Int32) (l7 : Int32) (l8 : Int32) : Option (Unit × SG) :=
  m_X12_reachEnds_195   c17 c32 FV σ l1 l2 l3 l4 l5 l6 l7 l8 0 0 1
set_option maxHeartbeats 4000000 in
set_option maxRecDepth 100000 in
theorem kb_X12_reachEnds_186 {p : Program} {l : Launch} {e : Env} {s : State} {m : MethodId} {args : Array Value} {below : List Frame} {meth : Method} {c : Code} {E : EF} (Z : ZT)    (C : cy p s m args meth c cX12_reachEnds none 13 RX12 wsX12_reachEnds E (zD Z) vwCl 24 (za Z) (tysM Z)) {res : Unit × SG} {c17 : SG → Int32 → Int32 → Int32 → Int32 → Int32 → Int32 → Option (Unit × SG)} {c32 : SG → Int32 → Int32 → Int32 → Int32 → Int32 → Int32 → Int32 → Option (Unit × SG)} (hc17 : ∀ (σ : SG) (l1 : Int32) (l2 : Int32) (l3 : Int32) (l4 : Int32) (l5 : Int32) (l6 : Int32) , c17 σ l1 l2 l3 l4 l5 l6 = some res → ∀ (H : Heap) (locs : List Loc), ws_P (zD Z) vwCl 24 (za Z) (tM Z) σ H → va_S (ws_A 24 (za Z)) s.heap H locs → ∀ (ls : Array Slot), lv_has ls 13 [(0, .ref (za Z 0)), (1, .int l1), (2, .int l2), (3, .int l3), (4, .int l4), (5, .int l5), (6, .int l6)] → W p l e rm_X12_reachEnds s m args below meth c H locs 0 0 (MQ below (xQv E (zD Z) vwCl 24 (za Z) (tM Z) (tysM Z) res) args s 0 0 (ws_A 24 (za Z))) (F0 m 17 ls [])) (hc32 : ∀ (σ : SG) (l1 : Int32) (l2 : Int32) (l3 : Int32) (l4 : Int32) (l5 : Int32) (l6 : Int32) (l7 : Int32) , c32 σ l1 l2 l3 l4 l5 l6 l7 = some res → ∀ (H : Heap) (locs : List Loc), ws_P (zD Z) vwCl 24 (za Z) (tM Z) σ H → va_S (ws_A 24 (za Z)) s.heap H locs → ∀ (ls : Array Slot), lv_has ls 13 [(0, .ref (za Z 0)), (1, .int l1), (2, .int l2), (3, .int l3), (4, .int l4), (5, .int l5), (6, .int l6), (7, .int l7)] → W p l e rm_X12_reachEnds s m args below meth c H locs 0 0 (MQ below (xQv E (zD Z) vwCl 24 (za Z) (tM Z) (tysM Z) res) args s 0 0 (ws_A 24 (za Z))) (F0 m 32 ls [])) : ∀ (σ : SG) (l1 : Int32) (l2 : Int32) (l3 : Int32) (l4 : Int32) (l5 : Int32) (l6 : Int32) (l7 : Int32) (l8 : Int32) , m_X12_reachEnds_186   c17 c32 σ l1 l2 l3 l4 l5 l6 l7 l8 = some res → ∀ (H : Heap) (locs : List Loc), ws_P (zD Z) vwCl 24 (za Z) (tM Z) σ H → va_S (ws_A 24 (za Z)) s.heap H locs → ∀ (ls : Array Slot), lv_has ls 13 [(0, .ref (za Z 0)), (1, .int l1), (2, .int l2), (3, .int l3), (4, .int l4), (5, .int l5), (6, .int l6), (7, .int l7), (8, .int l8)] → W p l e rm_X12_reachEnds s m args below meth c H locs 0 0 (MQ below (xQv E (zD Z) vwCl 24 (za Z) (tM Z) (tysM Z) res) args s 0 0 (ws_A 24 (za Z))) (F0 m 186 ls []) := by
  have C0 := C
  obtain ⟨hx, hb, hr, hlocks, hml, hown, hts, hE, hJ, hK⟩ := C0
  intro σ l1 l2 l3 l4 l5 l6 l7 l8  h H locs hP hS ls hl
  unfold m_X12_reachEnds_186 at h
  refine lv_iconst (v := 0) hx hb dX12_reachEnds_186 (by decide) ?_
  refine lv_istore (lv' := [(9, .int 0), (0, .ref (za Z 0)), (1, .int l1), (2, .int l2), (3, .int l3), (4, .int l4), (5, .int l5), (6, .int l6), (7, .int l7), (8, .int l8)]) hx hb dX12_reachEnds_187 hl (by decide) rfl (fun ls hl => ?_)
  refine lv_iconst (v := 0) hx hb dX12_reachEnds_189 (by decide) ?_
  refine lv_istore (lv' := [(10, .int 0), (9, .int 0), (0, .ref (za Z 0)), (1, .int l1), (2, .int l2), (3, .int l3), (4, .int l4), (5, .int l5), (6, .int l6), (7, .int l7), (8, .int l8)]) hx hb dX12_reachEnds_190 hl (by decide) rfl (fun ls hl => ?_)
  refine lv_iconst (v := 1) hx hb dX12_reachEnds_192 (by decide) ?_
  refine lv_istore (lv' := [(11, .int 1), (10, .int 0), (9, .int 0), (0, .ref (za Z 0)), (1, .int l1), (2, .int l2), (3, .int l3), (4, .int l4), (5, .int l5), (6, .int l6), (7, .int l7), (8, .int l8)]) hx hb dX12_reachEnds_193 hl (by decide) rfl (fun ls hl => ?_)
  exact kb_X12_reachEnds_195 Z    C  hc17 hc32 FV σ l1 l2 l3 l4 l5 l6 l7 l8 0 0 1 h H locs hP hS ls (lv_sub hl [3, 4, 5, 6, 7, 8, 9, 10, 11, 2, 1, 0] rfl)
def m_X12_reachEnds_137   (c17 : SG → Int32 → Int32 → Int32 → Int32 → Int32 → Int32 → Option (Unit × SG)) (c32 : SG → Int32 → Int32 → Int32 → Int32 → Int32 → Int32 → Int32 → Option (Unit × SG)) (σ : SG) (l1 : Int32) (l2 : Int32) (l3 : Int32) (l4 : Int32) (l5 : Int32) (l6 : Int32) (l7 : Int32) (l8 : Int32) : Option (Unit × SG) :=
  if l7 ≤ 0 then (m_X12_reachEnds_186   c17 c32 σ l1 l2 l3 l4 l5 l6 l7 l8) else (gB (inB (l8 - 1) 325) (gB (inB 3 8) (gB (inB ((l5 + l7) - 1) 216) (gB (inB (l8 - 1) 325) (bi (m_X12_better  σ l8 ((σ.1 12 (l8 - 1).toNatClampNeg) + ((σ.1 4 (3 : Int32).toNatClampNeg) * (σ.1 2 ((l5 + l7) - 1).toNatClampNeg))) (σ.1 13 (l8 - 1).toNatClampNeg)) (fun v32 σ33 => m_X12_reachEnds_186   c17 c32 σ33 l1 l2 l3 l4 l5 l6 l7 l8))))))
set_option maxHeartbeats 4000000 in
set_option maxRecDepth 100000 in
theorem kb_X12_reachEnds_137 {p : Program} {l : Launch} {e : Env} {s : State} {m : MethodId} {args : Array Value} {below : List Frame} {meth : Method} {c : Code} {E : EF} (Z : ZT)    (C : cy p s m args meth c cX12_reachEnds none 13 RX12 wsX12_reachEnds E (zD Z) vwCl 24 (za Z) (tysM Z)) {res : Unit × SG} {c17 : SG → Int32 → Int32 → Int32 → Int32 → Int32 → Int32 → Option (Unit × SG)} {c32 : SG → Int32 → Int32 → Int32 → Int32 → Int32 → Int32 → Int32 → Option (Unit × SG)} (hc17 : ∀ (σ : SG) (l1 : Int32) (l2 : Int32) (l3 : Int32) (l4 : Int32) (l5 : Int32) (l6 : Int32) , c17 σ l1 l2 l3 l4 l5 l6 = some res → ∀ (H : Heap) (locs : List Loc), ws_P (zD Z) vwCl 24 (za Z) (tM Z) σ H → va_S (ws_A 24 (za Z)) s.heap H locs → ∀ (ls : Array Slot), lv_has ls 13 [(0, .ref (za Z 0)), (1, .int l1), (2, .int l2), (3, .int l3), (4, .int l4), (5, .int l5), (6, .int l6)] → W p l e rm_X12_reachEnds s m args below meth c H locs 0 0 (MQ below (xQv E (zD Z) vwCl 24 (za Z) (tM Z) (tysM Z) res) args s 0 0 (ws_A 24 (za Z))) (F0 m 17 ls [])) (hc32 : ∀ (σ : SG) (l1 : Int32) (l2 : Int32) (l3 : Int32) (l4 : Int32) (l5 : Int32) (l6 : Int32) (l7 : Int32) , c32 σ l1 l2 l3 l4 l5 l6 l7 = some res → ∀ (H : Heap) (locs : List Loc), ws_P (zD Z) vwCl 24 (za Z) (tM Z) σ H → va_S (ws_A 24 (za Z)) s.heap H locs → ∀ (ls : Array Slot), lv_has ls 13 [(0, .ref (za Z 0)), (1, .int l1), (2, .int l2), (3, .int l3), (4, .int l4), (5, .int l5), (6, .int l6), (7, .int l7)] → W p l e rm_X12_reachEnds s m args below meth c H locs 0 0 (MQ below (xQv E (zD Z) vwCl 24 (za Z) (tM Z) (tysM Z) res) args s 0 0 (ws_A 24 (za Z))) (F0 m 32 ls [])) : ∀ (σ : SG) (l1 : Int32) (l2 : Int32) (l3 : Int32) (l4 : Int32) (l5 : Int32) (l6 : Int32) (l7 : Int32) (l8 : Int32) , m_X12_reachEnds_137   c17 c32 σ l1 l2 l3 l4 l5 l6 l7 l8 = some res → ∀ (H : Heap) (locs : List Loc), ws_P (zD Z) vwCl 24 (za Z) (tM Z) σ H → va_S (ws_A 24 (za Z)) s.heap H locs → ∀ (ls : Array Slot), lv_has ls 13 [(0, .ref (za Z 0)), (1, .int l1), (2, .int l2), (3, .int l3), (4, .int l4), (5, .int l5), (6, .int l6), (7, .int l7), (8, .int l8)] → W p l e rm_X12_reachEnds s m args below meth c H locs 0 0 (MQ below (xQv E (zD Z) vwCl 24 (za Z) (tM Z) (tysM Z) res) args s 0 0 (ws_A 24 (za Z))) (F0 m 137 ls []) := by
  have C0 := C
  obtain ⟨hx, hb, hr, hlocks, hml, hown, hts, hE, hJ, hK⟩ := C0
  intro σ l1 l2 l3 l4 l5 l6 l7 l8  h H locs hP hS ls hl
  unfold m_X12_reachEnds_137 at h
  refine lv_iload hx hb dX12_reachEnds_137 (lv_at hl 7 rfl) ?_
  refine lv_if_le (tgt := 186) hx hb dX12_reachEnds_139 (by decide) (fun q27 => ?_) (fun q27 => ?_)
  · have h := if_p h q27
    exact kb_X12_reachEnds_186 Z    C  hc17 hc32 σ l1 l2 l3 l4 l5 l6 l7 l8 h H locs hP hS ls (lv_sub hl [0, 1, 2, 3, 4, 5, 6, 7, 8] rfl)
  · have h := if_n h q27
    refine lv_aload_n hx hb dX12_reachEnds_142 rfl (lv_at hl 0 rfl) ?_
    refine lv_iload hx hb dX12_reachEnds_143 (lv_at hl 8 rfl) ?_
    refine lv_aload_n hx hb dX12_reachEnds_145 rfl (lv_at hl 0 rfl) ?_
    refine wr_get (C := RX12) (T := TX12) (N := 41) hx hb hts (in_X12_reachEnds_X12) hown hK hP (k := 0) (by decide) ((tM_0 Z) _ _ _) rfl 27 (by decide) (hts (.fieldLink RX12 50 "TuneSearchModel" "behindCost" "[I") (by decide +kernel)) (fun _ h9 => h9) rfl dX12_reachEnds_146 ?_
    refine lv_iload hx hb dX12_reachEnds_149 (lv_at hl 8 rfl) ?_
    refine lv_iconst (v := 1) hx hb dX12_reachEnds_151 (by decide) ?_
    refine lv_isub hx hb dX12_reachEnds_152 ?_
    obtain ⟨b28, h⟩ := gB_e h
    refine wr_iald hx hb hK hP (k := 12) (by decide) 0 ((tM_12 Z) _ _ _) rfl b28 dX12_reachEnds_153 ?_
    refine lv_aload_n hx hb dX12_reachEnds_154 rfl (lv_at hl 0 rfl) ?_
    refine wr_get (C := RX12) (T := TX12) (N := 41) hx hb hts (in_X12_reachEnds_X12) hown hK hP (k := 0) (by decide) ((tM_0 Z) _ _ _) rfl 5 (by decide) (hts (.fieldLink RX12 21 "TuneSearchModel" "prices" "[I") (by decide +kernel)) (fun _ h9 => h9) rfl dX12_reachEnds_155 ?_
    refine lv_iconst (v := 3) hx hb dX12_reachEnds_158 (by decide) ?_
    obtain ⟨b29, h⟩ := gB_e h
    refine wr_iald hx hb hK hP (k := 4) (by decide) 0 ((tM_4 Z) _ _ _) rfl b29 dX12_reachEnds_159 ?_
    refine lv_aload_n hx hb dX12_reachEnds_160 rfl (lv_at hl 0 rfl) ?_
    refine wr_get (C := RX12) (T := TX12) (N := 41) hx hb hts (in_X12_reachEnds_X12) hown hK hP (k := 0) (by decide) ((tM_0 Z) _ _ _) rfl 2 (by decide) (hts (.fieldLink RX12 15 "TuneSearchModel" "length" "[I") (by decide +kernel)) (fun _ h9 => h9) rfl dX12_reachEnds_161 ?_
    refine lv_iload hx hb dX12_reachEnds_164 (lv_at hl 5 rfl) ?_
    refine lv_iload hx hb dX12_reachEnds_166 (lv_at hl 7 rfl) ?_
    refine lv_iadd hx hb dX12_reachEnds_168 ?_
    refine lv_iconst (v := 1) hx hb dX12_reachEnds_169 (by decide) ?_
    refine lv_isub hx hb dX12_reachEnds_170 ?_
    obtain ⟨b30, h⟩ := gB_e h
    refine wr_iald hx hb hK hP (k := 2) (by decide) 0 ((tM_2 Z) _ _ _) rfl b30 dX12_reachEnds_171 ?_
    refine lv_imul hx hb dX12_reachEnds_172 ?_
    refine lv_iadd hx hb dX12_reachEnds_173 ?_
    refine lv_aload_n hx hb dX12_reachEnds_174 rfl (lv_at hl 0 rfl) ?_
    refine wr_get (C := RX12) (T := TX12) (N := 41) hx hb hts (in_X12_reachEnds_X12) hown hK hP (k := 0) (by decide) ((tM_0 Z) _ _ _) rfl 28 (by decide) (hts (.fieldLink RX12 53 "TuneSearchModel" "behindFrom" "[I") (by decide +kernel)) (fun _ h9 => h9) rfl dX12_reachEnds_175 ?_
    refine lv_iload hx hb dX12_reachEnds_178 (lv_at hl 8 rfl) ?_
    refine lv_iconst (v := 1) hx hb dX12_reachEnds_180 (by decide) ?_
    refine lv_isub hx hb dX12_reachEnds_181 ?_
    obtain ⟨b31, h⟩ := gB_e h
    refine wr_iald hx hb hK hP (k := 13) (by decide) 0 ((tM_13 Z) _ _ _) rfl b31 dX12_reachEnds_182 ?_
    obtain ⟨v32, σ33, hm34, h⟩ := bi_e h
    refine xr_callv (res := (v32, σ33)) (va_runV (As := [.int l8, .int ((σ.1 12 (l8 - 1).toNatClampNeg) + ((σ.1 4 (3 : Int32).toNatClampNeg) * (σ.1 2 ((l5 + l7) - 1).toNatClampNeg))), .int (σ.1 13 (l8 - 1).toNatClampNeg)]) (rest := []) ⟨hx, hb, hml, hown, hts⟩ (k_X12_better l Z   σ l8 ((σ.1 12 (l8 - 1).toNatClampNeg) + ((σ.1 4 (3 : Int32).toNatClampNeg) * (σ.1 2 ((l5 + l7) - 1).toNatClampNeg))) (σ.1 13 (l8 - 1).toNatClampNeg) hm34) (cwV 3 hts gX12_reachEnds_X12_better rfl rfl rfl (by decide +kernel) ⟨Nat.le_of_ble_eq_true rfl, Nat.le_of_ble_eq_true rfl⟩) ⟨wx_blind, wr_recv hK hP (k := 0) (by decide) ((tM_0 Z) _ _ _) rfl, fun U hU hW => ⟨rfl, wx_at hE hJ hP hK hS hU hW⟩⟩ rfl rfl hl.1 rfl (lv_room (Nat.le_of_ble_eq_true rfl)) dX12_reachEnds_183 ⟨Nat.le_of_ble_eq_true rfl, Nat.le_of_ble_eq_true rfl⟩) hS (fun H locs hP hS => ?_)
    have hP : ws_P (zD Z) vwCl 24 (za Z) (tM Z) σ33 H := hP
    exact kb_X12_reachEnds_186 Z    C  hc17 hc32 σ33 l1 l2 l3 l4 l5 l6 l7 l8 h H locs hP hS ls (lv_sub hl [0, 1, 2, 3, 4, 5, 6, 7, 8] rfl)
def m_X12_reachEnds_87   (c17 : SG → Int32 → Int32 → Int32 → Int32 → Int32 → Int32 → Option (Unit × SG)) (c32 : SG → Int32 → Int32 → Int32 → Int32 → Int32 → Int32 → Int32 → Option (Unit × SG)) (σ : SG) (l1 : Int32) (l2 : Int32) (l3 : Int32) (l4 : Int32) (l5 : Int32) (l6 : Int32) (l7 : Int32) (l8 : Int32) (s0 : Int32) (s1 : Int32) : Option (Unit × SG) :=
  gB (inB s1 325) (lS (sI σ 13 s1.toNatClampNeg s0) (fun σ17 => if l6 ≤ 0 then (m_X12_reachEnds_137   c17 c32 σ17 l1 l2 l3 l4 l5 l6 l7 l8) else (gB (inB (l8 - l3) 325) (gB (inB 2 8) (gB (inB ((l4 + l6) - 1) 216) (gB (inB (l8 - l3) 325) (bi (m_X12_better  σ17 l8 ((σ17.1 12 (l8 - l3).toNatClampNeg) + ((σ17.1 4 (2 : Int32).toNatClampNeg) * (σ17.1 2 ((l4 + l6) - 1).toNatClampNeg))) (σ17.1 13 (l8 - l3).toNatClampNeg)) (fun v24 σ25 => m_X12_reachEnds_137   c17 c32 σ25 l1 l2 l3 l4 l5 l6 l7 l8))))))))
set_option maxHeartbeats 4000000 in
set_option maxRecDepth 100000 in
theorem kb_X12_reachEnds_87 {p : Program} {l : Launch} {e : Env} {s : State} {m : MethodId} {args : Array Value} {below : List Frame} {meth : Method} {c : Code} {E : EF} (Z : ZT)    (C : cy p s m args meth c cX12_reachEnds none 13 RX12 wsX12_reachEnds E (zD Z) vwCl 24 (za Z) (tysM Z)) {res : Unit × SG} {c17 : SG → Int32 → Int32 → Int32 → Int32 → Int32 → Int32 → Option (Unit × SG)} {c32 : SG → Int32 → Int32 → Int32 → Int32 → Int32 → Int32 → Int32 → Option (Unit × SG)} (hc17 : ∀ (σ : SG) (l1 : Int32) (l2 : Int32) (l3 : Int32) (l4 : Int32) (l5 : Int32) (l6 : Int32) , c17 σ l1 l2 l3 l4 l5 l6 = some res → ∀ (H : Heap) (locs : List Loc), ws_P (zD Z) vwCl 24 (za Z) (tM Z) σ H → va_S (ws_A 24 (za Z)) s.heap H locs → ∀ (ls : Array Slot), lv_has ls 13 [(0, .ref (za Z 0)), (1, .int l1), (2, .int l2), (3, .int l3), (4, .int l4), (5, .int l5), (6, .int l6)] → W p l e rm_X12_reachEnds s m args below meth c H locs 0 0 (MQ below (xQv E (zD Z) vwCl 24 (za Z) (tM Z) (tysM Z) res) args s 0 0 (ws_A 24 (za Z))) (F0 m 17 ls [])) (hc32 : ∀ (σ : SG) (l1 : Int32) (l2 : Int32) (l3 : Int32) (l4 : Int32) (l5 : Int32) (l6 : Int32) (l7 : Int32) , c32 σ l1 l2 l3 l4 l5 l6 l7 = some res → ∀ (H : Heap) (locs : List Loc), ws_P (zD Z) vwCl 24 (za Z) (tM Z) σ H → va_S (ws_A 24 (za Z)) s.heap H locs → ∀ (ls : Array Slot), lv_has ls 13 [(0, .ref (za Z 0)), (1, .int l1), (2, .int l2), (3, .int l3), (4, .int l4), (5, .int l5), (6, .int l6), (7, .int l7)] → W p l e rm_X12_reachEnds s m args below meth c H locs 0 0 (MQ below (xQv E (zD Z) vwCl 24 (za Z) (tM Z) (tysM Z) res) args s 0 0 (ws_A 24 (za Z))) (F0 m 32 ls [])) : ∀ (σ : SG) (l1 : Int32) (l2 : Int32) (l3 : Int32) (l4 : Int32) (l5 : Int32) (l6 : Int32) (l7 : Int32) (l8 : Int32) (s0 : Int32) (s1 : Int32) , m_X12_reachEnds_87   c17 c32 σ l1 l2 l3 l4 l5 l6 l7 l8 s0 s1 = some res → ∀ (H : Heap) (locs : List Loc), ws_P (zD Z) vwCl 24 (za Z) (tM Z) σ H → va_S (ws_A 24 (za Z)) s.heap H locs → ∀ (ls : Array Slot), lv_has ls 13 [(0, .ref (za Z 0)), (1, .int l1), (2, .int l2), (3, .int l3), (4, .int l4), (5, .int l5), (6, .int l6), (7, .int l7), (8, .int l8)] → W p l e rm_X12_reachEnds s m args below meth c H locs 0 0 (MQ below (xQv E (zD Z) vwCl 24 (za Z) (tM Z) (tysM Z) res) args s 0 0 (ws_A 24 (za Z))) (F0 m 87 ls [.int s0, .int s1, .ref (za Z 13)]) := by
  have C0 := C
  obtain ⟨hx, hb, hr, hlocks, hml, hown, hts, hE, hJ, hK⟩ := C0
  intro σ l1 l2 l3 l4 l5 l6 l7 l8 s0 s1  h H locs hP hS ls hl
  unfold m_X12_reachEnds_87 at h
  obtain ⟨b16, h⟩ := gB_e h
  refine wr_iast hx hb hK hP hJ hS (k := 13) (by decide) 0 (tM_13 Z) rfl b16 dX12_reachEnds_87 (fun H locs hP hS => ?_)
  obtain ⟨σ17, e18, h⟩ := lS_e h
  rw [← e18] at hP
  refine lv_iload hx hb dX12_reachEnds_88 (lv_at hl 6 rfl) ?_
  refine lv_if_le (tgt := 137) hx hb dX12_reachEnds_90 (by decide) (fun q19 => ?_) (fun q19 => ?_)
  · have h := if_p h q19
    exact kb_X12_reachEnds_137 Z    C  hc17 hc32 σ17 l1 l2 l3 l4 l5 l6 l7 l8 h H locs hP hS ls (lv_sub hl [0, 1, 2, 3, 4, 5, 6, 7, 8] rfl)
  · have h := if_n h q19
    refine lv_aload_n hx hb dX12_reachEnds_93 rfl (lv_at hl 0 rfl) ?_
    refine lv_iload hx hb dX12_reachEnds_94 (lv_at hl 8 rfl) ?_
    refine lv_aload_n hx hb dX12_reachEnds_96 rfl (lv_at hl 0 rfl) ?_
    refine wr_get (C := RX12) (T := TX12) (N := 41) hx hb hts (in_X12_reachEnds_X12) hown hK hP (k := 0) (by decide) ((tM_0 Z) _ _ _) rfl 27 (by decide) (hts (.fieldLink RX12 50 "TuneSearchModel" "behindCost" "[I") (by decide +kernel)) (fun _ h9 => h9) rfl dX12_reachEnds_97 ?_
    refine lv_iload hx hb dX12_reachEnds_100 (lv_at hl 8 rfl) ?_
    refine lv_iload_n hx hb dX12_reachEnds_102 rfl (lv_at hl 3 rfl) ?_
    refine lv_isub hx hb dX12_reachEnds_103 ?_
    obtain ⟨b20, h⟩ := gB_e h
    refine wr_iald hx hb hK hP (k := 12) (by decide) 0 ((tM_12 Z) _ _ _) rfl b20 dX12_reachEnds_104 ?_
    refine lv_aload_n hx hb dX12_reachEnds_105 rfl (lv_at hl 0 rfl) ?_
    refine wr_get (C := RX12) (T := TX12) (N := 41) hx hb hts (in_X12_reachEnds_X12) hown hK hP (k := 0) (by decide) ((tM_0 Z) _ _ _) rfl 5 (by decide) (hts (.fieldLink RX12 21 "TuneSearchModel" "prices" "[I") (by decide +kernel)) (fun _ h9 => h9) rfl dX12_reachEnds_106 ?_
    refine lv_iconst (v := 2) hx hb dX12_reachEnds_109 (by decide) ?_
    obtain ⟨b21, h⟩ := gB_e h
    refine wr_iald hx hb hK hP (k := 4) (by decide) 0 ((tM_4 Z) _ _ _) rfl b21 dX12_reachEnds_110 ?_
    refine lv_aload_n hx hb dX12_reachEnds_111 rfl (lv_at hl 0 rfl) ?_
    refine wr_get (C := RX12) (T := TX12) (N := 41) hx hb hts (in_X12_reachEnds_X12) hown hK hP (k := 0) (by decide) ((tM_0 Z) _ _ _) rfl 2 (by decide) (hts (.fieldLink RX12 15 "TuneSearchModel" "length" "[I") (by decide +kernel)) (fun _ h9 => h9) rfl dX12_reachEnds_112 ?_
    refine lv_iload hx hb dX12_reachEnds_115 (lv_at hl 4 rfl) ?_
    refine lv_iload hx hb dX12_reachEnds_117 (lv_at hl 6 rfl) ?_
    refine lv_iadd hx hb dX12_reachEnds_119 ?_
    refine lv_iconst (v := 1) hx hb dX12_reachEnds_120 (by decide) ?_
    refine lv_isub hx hb dX12_reachEnds_121 ?_
    obtain ⟨b22, h⟩ := gB_e h
    refine wr_iald hx hb hK hP (k := 2) (by decide) 0 ((tM_2 Z) _ _ _) rfl b22 dX12_reachEnds_122 ?_
    refine lv_imul hx hb dX12_reachEnds_123 ?_
    refine lv_iadd hx hb dX12_reachEnds_124 ?_
    refine lv_aload_n hx hb dX12_reachEnds_125 rfl (lv_at hl 0 rfl) ?_
    refine wr_get (C := RX12) (T := TX12) (N := 41) hx hb hts (in_X12_reachEnds_X12) hown hK hP (k := 0) (by decide) ((tM_0 Z) _ _ _) rfl 28 (by decide) (hts (.fieldLink RX12 53 "TuneSearchModel" "behindFrom" "[I") (by decide +kernel)) (fun _ h9 => h9) rfl dX12_reachEnds_126 ?_
    refine lv_iload hx hb dX12_reachEnds_129 (lv_at hl 8 rfl) ?_
    refine lv_iload_n hx hb dX12_reachEnds_131 rfl (lv_at hl 3 rfl) ?_
    refine lv_isub hx hb dX12_reachEnds_132 ?_
    obtain ⟨b23, h⟩ := gB_e h
    refine wr_iald hx hb hK hP (k := 13) (by decide) 0 ((tM_13 Z) _ _ _) rfl b23 dX12_reachEnds_133 ?_
    obtain ⟨v24, σ25, hm26, h⟩ := bi_e h
    refine xr_callv (res := (v24, σ25)) (va_runV (As := [.int l8, .int ((σ17.1 12 (l8 - l3).toNatClampNeg) + ((σ17.1 4 (2 : Int32).toNatClampNeg) * (σ17.1 2 ((l4 + l6) - 1).toNatClampNeg))), .int (σ17.1 13 (l8 - l3).toNatClampNeg)]) (rest := []) ⟨hx, hb, hml, hown, hts⟩ (k_X12_better l Z   σ17 l8 ((σ17.1 12 (l8 - l3).toNatClampNeg) + ((σ17.1 4 (2 : Int32).toNatClampNeg) * (σ17.1 2 ((l4 + l6) - 1).toNatClampNeg))) (σ17.1 13 (l8 - l3).toNatClampNeg) hm26) (cwV 3 hts gX12_reachEnds_X12_better rfl rfl rfl (by decide +kernel) ⟨Nat.le_of_ble_eq_true rfl, Nat.le_of_ble_eq_true rfl⟩) ⟨wx_blind, wr_recv hK hP (k := 0) (by decide) ((tM_0 Z) _ _ _) rfl, fun U hU hW => ⟨rfl, wx_at hE hJ hP hK hS hU hW⟩⟩ rfl rfl hl.1 rfl (lv_room (Nat.le_of_ble_eq_true rfl)) dX12_reachEnds_134 ⟨Nat.le_of_ble_eq_true rfl, Nat.le_of_ble_eq_true rfl⟩) hS (fun H locs hP hS => ?_)
    have hP : ws_P (zD Z) vwCl 24 (za Z) (tM Z) σ25 H := hP
    exact kb_X12_reachEnds_137 Z    C  hc17 hc32 σ25 l1 l2 l3 l4 l5 l6 l7 l8 h H locs hP hS ls (lv_sub hl [0, 1, 2, 3, 4, 5, 6, 7, 8] rfl)
def m_X12_reachEnds_69   (c17 : SG → Int32 → Int32 → Int32 → Int32 → Int32 → Int32 → Option (Unit × SG)) (c32 : SG → Int32 → Int32 → Int32 → Int32 → Int32 → Int32 → Int32 → Option (Unit × SG)) (σ : SG) (l1 : Int32) (l2 : Int32) (l3 : Int32) (l4 : Int32) (l5 : Int32) (l6 : Int32) (l7 : Int32) (l8 : Int32) (s0 : Int32) (s1 : Int32) : Option (Unit × SG) :=
  gB (inB s1 325) (lS (sI σ 12 s1.toNatClampNeg s0) (fun σ13 => if ¬ l6 = 0 then (m_X12_reachEnds_87   c17 c32 σ13 l1 l2 l3 l4 l5 l6 l7 l8 (-1) l8) else (m_X12_reachEnds_87   c17 c32 σ13 l1 l2 l3 l4 l5 l6 l7 l8 l7 l8)))
set_option maxHeartbeats 4000000 in
set_option maxRecDepth 100000 in
theorem kb_X12_reachEnds_69 {p : Program} {l : Launch} {e : Env} {s : State} {m : MethodId} {args : Array Value} {below : List Frame} {meth : Method} {c : Code} {E : EF} (Z : ZT)    (C : cy p s m args meth c cX12_reachEnds none 13 RX12 wsX12_reachEnds E (zD Z) vwCl 24 (za Z) (tysM Z)) {res : Unit × SG} {c17 : SG → Int32 → Int32 → Int32 → Int32 → Int32 → Int32 → Option (Unit × SG)} {c32 : SG → Int32 → Int32 → Int32 → Int32 → Int32 → Int32 → Int32 → Option (Unit × SG)} (hc17 : ∀ (σ : SG) (l1 : Int32) (l2 : Int32) (l3 : Int32) (l4 : Int32) (l5 : Int32) (l6 : Int32) , c17 σ l1 l2 l3 l4 l5 l6 = some res → ∀ (H : Heap) (locs : List Loc), ws_P (zD Z) vwCl 24 (za Z) (tM Z) σ H → va_S (ws_A 24 (za Z)) s.heap H locs → ∀ (ls : Array Slot), lv_has ls 13 [(0, .ref (za Z 0)), (1, .int l1), (2, .int l2), (3, .int l3), (4, .int l4), (5, .int l5), (6, .int l6)] → W p l e rm_X12_reachEnds s m args below meth c H locs 0 0 (MQ below (xQv E (zD Z) vwCl 24 (za Z) (tM Z) (tysM Z) res) args s 0 0 (ws_A 24 (za Z))) (F0 m 17 ls [])) (hc32 : ∀ (σ : SG) (l1 : Int32) (l2 : Int32) (l3 : Int32) (l4 : Int32) (l5 : Int32) (l6 : Int32) (l7 : Int32) , c32 σ l1 l2 l3 l4 l5 l6 l7 = some res → ∀ (H : Heap) (locs : List Loc), ws_P (zD Z) vwCl 24 (za Z) (tM Z) σ H → va_S (ws_A 24 (za Z)) s.heap H locs → ∀ (ls : Array Slot), lv_has ls 13 [(0, .ref (za Z 0)), (1, .int l1), (2, .int l2), (3, .int l3), (4, .int l4), (5, .int l5), (6, .int l6), (7, .int l7)] → W p l e rm_X12_reachEnds s m args below meth c H locs 0 0 (MQ below (xQv E (zD Z) vwCl 24 (za Z) (tM Z) (tysM Z) res) args s 0 0 (ws_A 24 (za Z))) (F0 m 32 ls [])) : ∀ (σ : SG) (l1 : Int32) (l2 : Int32) (l3 : Int32) (l4 : Int32) (l5 : Int32) (l6 : Int32) (l7 : Int32) (l8 : Int32) (s0 : Int32) (s1 : Int32) , m_X12_reachEnds_69   c17 c32 σ l1 l2 l3 l4 l5 l6 l7 l8 s0 s1 = some res → ∀ (H : Heap) (locs : List Loc), ws_P (zD Z) vwCl 24 (za Z) (tM Z) σ H → va_S (ws_A 24 (za Z)) s.heap H locs → ∀ (ls : Array Slot), lv_has ls 13 [(0, .ref (za Z 0)), (1, .int l1), (2, .int l2), (3, .int l3), (4, .int l4), (5, .int l5), (6, .int l6), (7, .int l7), (8, .int l8)] → W p l e rm_X12_reachEnds s m args below meth c H locs 0 0 (MQ below (xQv E (zD Z) vwCl 24 (za Z) (tM Z) (tysM Z) res) args s 0 0 (ws_A 24 (za Z))) (F0 m 69 ls [.int s0, .int s1, .ref (za Z 12)]) := by
  have C0 := C
  obtain ⟨hx, hb, hr, hlocks, hml, hown, hts, hE, hJ, hK⟩ := C0
  intro σ l1 l2 l3 l4 l5 l6 l7 l8 s0 s1  h H locs hP hS ls hl
  unfold m_X12_reachEnds_69 at h
  obtain ⟨b12, h⟩ := gB_e h
  refine wr_iast hx hb hK hP hJ hS (k := 12) (by decide) 0 (tM_12 Z) rfl b12 dX12_reachEnds_69 (fun H locs hP hS => ?_)
  obtain ⟨σ13, e14, h⟩ := lS_e h
  rw [← e14] at hP
  refine lv_aload_n hx hb dX12_reachEnds_70 rfl (lv_at hl 0 rfl) ?_
  refine wr_get (C := RX12) (T := TX12) (N := 41) hx hb hts (in_X12_reachEnds_X12) hown hK hP (k := 0) (by decide) ((tM_0 Z) _ _ _) rfl 28 (by decide) (hts (.fieldLink RX12 53 "TuneSearchModel" "behindFrom" "[I") (by decide +kernel)) (fun _ h9 => h9) rfl dX12_reachEnds_71 ?_
  refine lv_iload hx hb dX12_reachEnds_74 (lv_at hl 8 rfl) ?_
  refine lv_iload hx hb dX12_reachEnds_76 (lv_at hl 6 rfl) ?_
  refine lv_if_ne (tgt := 86) hx hb dX12_reachEnds_78 (by decide) (fun q15 => ?_) (fun q15 => ?_)
  · have h := if_p h q15
    refine lv_iconst (v := (-1)) hx hb dX12_reachEnds_86 (by decide) ?_
    exact kb_X12_reachEnds_87 Z    C  hc17 hc32 σ13 l1 l2 l3 l4 l5 l6 l7 l8 (-1) l8 h H locs hP hS ls (lv_sub hl [0, 1, 2, 3, 4, 5, 6, 7, 8] rfl)
  · have h := if_n h (fun z => z q15)
    refine lv_iload hx hb dX12_reachEnds_81 (lv_at hl 7 rfl) ?_
    refine lv_goto (tgt := 87) hx hb dX12_reachEnds_83 (by decide) ?_
    exact kb_X12_reachEnds_87 Z    C  hc17 hc32 σ13 l1 l2 l3 l4 l5 l6 l7 l8 l7 l8 h H locs hP hS ls (lv_sub hl [0, 1, 2, 3, 4, 5, 6, 7, 8] rfl)
def m_X12_reachEnds_32_s   (c17 : SG → Int32 → Int32 → Int32 → Int32 → Int32 → Int32 → Option (Unit × SG)) (c32 : SG → Int32 → Int32 → Int32 → Int32 → Int32 → Int32 → Int32 → Option (Unit × SG)) (σ : SG) (l1 : Int32) (l2 : Int32) (l3 : Int32) (l4 : Int32) (l5 : Int32) (l6 : Int32) (l7 : Int32) : Option (Unit × SG) :=
  gB (inB l1 9) (if (σ.1 3 l1.toNatClampNeg) < l7 then (lS (l6 + 1) (fun v7 => c17 σ l1 l2 l3 l4 l5 v7)) else (lS ((l3 * l6) + l7) (fun v9 => if ¬ l6 = 0 then (m_X12_reachEnds_69   c17 c32 σ l1 l2 l3 l4 l5 l6 l7 v9 2147483647 v9) else (m_X12_reachEnds_69   c17 c32 σ l1 l2 l3 l4 l5 l6 l7 v9 0 v9))))
def m_X12_reachEnds_32   (c17 : SG → Int32 → Int32 → Int32 → Int32 → Int32 → Int32 → Option (Unit × SG)) : Nat → SG → Int32 → Int32 → Int32 → Int32 → Int32 → Int32 → Int32 → Option (Unit × SG)
  | 0, _, _, _, _, _, _, _, _ => none
  | n + 1, σ, l1, l2, l3, l4, l5, l6, l7 => m_X12_reachEnds_32_s   c17 (m_X12_reachEnds_32   c17 n) σ l1 l2 l3 l4 l5 l6 l7
set_option maxHeartbeats 4000000 in
set_option maxRecDepth 100000 in
theorem kb_X12_reachEnds_32 {p : Program} {l : Launch} {e : Env} {s : State} {m : MethodId} {args : Array Value} {below : List Frame} {meth : Method} {c : Code} {E : EF} (Z : ZT)    (C : cy p s m args meth c cX12_reachEnds none 13 RX12 wsX12_reachEnds E (zD Z) vwCl 24 (za Z) (tysM Z)) {res : Unit × SG} {c17 : SG → Int32 → Int32 → Int32 → Int32 → Int32 → Int32 → Option (Unit × SG)} (hc17 : ∀ (σ : SG) (l1 : Int32) (l2 : Int32) (l3 : Int32) (l4 : Int32) (l5 : Int32) (l6 : Int32) , c17 σ l1 l2 l3 l4 l5 l6 = some res → ∀ (H : Heap) (locs : List Loc), ws_P (zD Z) vwCl 24 (za Z) (tM Z) σ H → va_S (ws_A 24 (za Z)) s.heap H locs → ∀ (ls : Array Slot), lv_has ls 13 [(0, .ref (za Z 0)), (1, .int l1), (2, .int l2), (3, .int l3), (4, .int l4), (5, .int l5), (6, .int l6)] → W p l e rm_X12_reachEnds s m args below meth c H locs 0 0 (MQ below (xQv E (zD Z) vwCl 24 (za Z) (tM Z) (tysM Z) res) args s 0 0 (ws_A 24 (za Z))) (F0 m 17 ls [])) : ∀ (n : Nat) (σ : SG) (l1 : Int32) (l2 : Int32) (l3 : Int32) (l4 : Int32) (l5 : Int32) (l6 : Int32) (l7 : Int32) , m_X12_reachEnds_32   c17 n σ l1 l2 l3 l4 l5 l6 l7 = some res → ∀ (H : Heap) (locs : List Loc), ws_P (zD Z) vwCl 24 (za Z) (tM Z) σ H → va_S (ws_A 24 (za Z)) s.heap H locs → ∀ (ls : Array Slot), lv_has ls 13 [(0, .ref (za Z 0)), (1, .int l1), (2, .int l2), (3, .int l3), (4, .int l4), (5, .int l5), (6, .int l6), (7, .int l7)] → W p l e rm_X12_reachEnds s m args below meth c H locs 0 0 (MQ below (xQv E (zD Z) vwCl 24 (za Z) (tM Z) (tysM Z) res) args s 0 0 (ws_A 24 (za Z))) (F0 m 32 ls []) := by
  have C0 := C
  obtain ⟨hx, hb, hr, hlocks, hml, hown, hts, hE, hJ, hK⟩ := C0
  intro n
  induction n with
  | zero =>
    intro σ l1 l2 l3 l4 l5 l6 l7  h
    cases h
  | succ n ih =>
    intro σ l1 l2 l3 l4 l5 l6 l7  h H locs hP hS ls hl
    have hc32 : ∀ (σ : SG) (l1 : Int32) (l2 : Int32) (l3 : Int32) (l4 : Int32) (l5 : Int32) (l6 : Int32) (l7 : Int32) , m_X12_reachEnds_32   c17 n σ l1 l2 l3 l4 l5 l6 l7 = some res → ∀ (H : Heap) (locs : List Loc), ws_P (zD Z) vwCl 24 (za Z) (tM Z) σ H → va_S (ws_A 24 (za Z)) s.heap H locs → ∀ (ls : Array Slot), lv_has ls 13 [(0, .ref (za Z 0)), (1, .int l1), (2, .int l2), (3, .int l3), (4, .int l4), (5, .int l5), (6, .int l6), (7, .int l7)] → W p l e rm_X12_reachEnds s m args below meth c H locs 0 0 (MQ below (xQv E (zD Z) vwCl 24 (za Z) (tM Z) (tysM Z) res) args s 0 0 (ws_A 24 (za Z))) (F0 m 32 ls []) := ih
    have h : m_X12_reachEnds_32_s   c17 (m_X12_reachEnds_32   c17 n) σ l1 l2 l3 l4 l5 l6 l7 = some res := h
    unfold m_X12_reachEnds_32_s at h
    refine lv_iload hx hb dX12_reachEnds_32 (lv_at hl 7 rfl) ?_
    refine lv_aload_n hx hb dX12_reachEnds_34 rfl (lv_at hl 0 rfl) ?_
    refine wr_get (C := RX12) (T := TX12) (N := 41) hx hb hts (in_X12_reachEnds_X12) hown hK hP (k := 0) (by decide) ((tM_0 Z) _ _ _) rfl 3 (by decide) (hts (.fieldLink RX12 18 "TuneSearchModel" "size" "[I") (by decide +kernel)) (fun _ h9 => h9) rfl dX12_reachEnds_35 ?_
    refine lv_iload_n hx hb dX12_reachEnds_38 rfl (lv_at hl 1 rfl) ?_
    obtain ⟨b5, h⟩ := gB_e h
    refine wr_iald hx hb hK hP (k := 3) (by decide) 0 ((tM_3 Z) _ _ _) rfl b5 dX12_reachEnds_39 ?_
    refine lv_icmp_gt (tgt := 462) hx hb dX12_reachEnds_40 (by decide) (fun q6 => ?_) (fun q6 => ?_)
    · have h := if_p h q6
      obtain ⟨v7, e8, h⟩ := lS_e h
      refine lv_iinc (v := v7) (lv' := [(6, .int v7), (0, .ref (za Z 0)), (1, .int l1), (2, .int l2), (3, .int l3), (4, .int l4), (5, .int l5), (7, .int l7)]) hx hb dX12_reachEnds_462 hl (k := 6) rfl (by rw [e8]; rfl) (by decide) rfl (fun ls hl => ?_)
      refine lv_goto (tgt := 17) hx hb dX12_reachEnds_465 (by decide) ?_
      exact hc17 σ l1 l2 l3 l4 l5 v7 h H locs hP hS ls (lv_sub hl [1, 2, 3, 4, 5, 6, 0] rfl)
    · have h := if_n h q6
      refine lv_iload_n hx hb dX12_reachEnds_43 rfl (lv_at hl 3 rfl) ?_
      refine lv_iload hx hb dX12_reachEnds_44 (lv_at hl 6 rfl) ?_
      refine lv_imul hx hb dX12_reachEnds_46 ?_
      refine lv_iload hx hb dX12_reachEnds_47 (lv_at hl 7 rfl) ?_
      refine lv_iadd hx hb dX12_reachEnds_49 ?_
      refine lv_topi (fun v9 e10 => ?_)
      have h := lS_u h e10
      refine lv_istore (lv' := [(8, .int v9), (0, .ref (za Z 0)), (1, .int l1), (2, .int l2), (3, .int l3), (4, .int l4), (5, .int l5), (6, .int l6), (7, .int l7)]) hx hb dX12_reachEnds_50 hl (by decide) rfl (fun ls hl => ?_)
      refine lv_aload_n hx hb dX12_reachEnds_52 rfl (lv_at hl 1 rfl) ?_
      refine wr_get (C := RX12) (T := TX12) (N := 41) hx hb hts (in_X12_reachEnds_X12) hown hK hP (k := 0) (by decide) ((tM_0 Z) _ _ _) rfl 27 (by decide) (hts (.fieldLink RX12 50 "TuneSearchModel" "behindCost" "[I") (by decide +kernel)) (fun _ h9 => h9) rfl dX12_reachEnds_53 ?_
      refine lv_iload hx hb dX12_reachEnds_56 (lv_at hl 0 rfl) ?_
      refine lv_iload hx hb dX12_reachEnds_58 (lv_at hl 7 rfl) ?_
      refine lv_if_ne (tgt := 67) hx hb dX12_reachEnds_60 (by decide) (fun q11 => ?_) (fun q11 => ?_)
      · have h := if_p h q11
        refine lv_ldc (v := 2147483647) hx hb hown (hts (.constant RX12 225 2147483647) (by decide +kernel)) dX12_reachEnds_67 ?_
        exact kb_X12_reachEnds_69 Z    C  hc17 hc32 σ l1 l2 l3 l4 l5 l6 l7 v9 2147483647 v9 h H locs hP hS ls (lv_sub hl [1, 2, 3, 4, 5, 6, 7, 8, 0] rfl)
      · have h := if_n h (fun z => z q11)
        refine lv_iconst (v := 0) hx hb dX12_reachEnds_63 (by decide) ?_
        refine lv_goto (tgt := 69) hx hb dX12_reachEnds_64 (by decide) ?_
        exact kb_X12_reachEnds_69 Z    C  hc17 hc32 σ l1 l2 l3 l4 l5 l6 l7 v9 0 v9 h H locs hP hS ls (lv_sub hl [1, 2, 3, 4, 5, 6, 7, 8, 0] rfl)
def m_X12_reachEnds_17_s    (c17 : SG → Int32 → Int32 → Int32 → Int32 → Int32 → Int32 → Option (Unit × SG)) (σ : SG) (l1 : Int32) (l2 : Int32) (l3 : Int32) (l4 : Int32) (l5 : Int32) (l6 : Int32) : Option (Unit × SG) :=
  gB (inB 8 9) (if (σ.1 3 (8 : Int32).toNatClampNeg) < l6 then (some ((), σ)) else (m_X12_reachEnds_32   c17 FV σ l1 l2 l3 l4 l5 l6 0))
def m_X12_reachEnds_17    : Nat → SG → Int32 → Int32 → Int32 → Int32 → Int32 → Int32 → Option (Unit × SG)
  | 0, _, _, _, _, _, _, _ => none
  | n + 1, σ, l1, l2, l3, l4, l5, l6 => m_X12_reachEnds_17_s    (m_X12_reachEnds_17    n) σ l1 l2 l3 l4 l5 l6
set_option maxHeartbeats 4000000 in
set_option maxRecDepth 100000 in
theorem kb_X12_reachEnds_17 {p : Program} {l : Launch} {e : Env} {s : State} {m : MethodId} {args : Array Value} {below : List Frame} {meth : Method} {c : Code} {E : EF} (Z : ZT)    (C : cy p s m args meth c cX12_reachEnds none 13 RX12 wsX12_reachEnds E (zD Z) vwCl 24 (za Z) (tysM Z)) {res : Unit × SG}   : ∀ (n : Nat) (σ : SG) (l1 : Int32) (l2 : Int32) (l3 : Int32) (l4 : Int32) (l5 : Int32) (l6 : Int32) , m_X12_reachEnds_17    n σ l1 l2 l3 l4 l5 l6 = some res → ∀ (H : Heap) (locs : List Loc), ws_P (zD Z) vwCl 24 (za Z) (tM Z) σ H → va_S (ws_A 24 (za Z)) s.heap H locs → ∀ (ls : Array Slot), lv_has ls 13 [(0, .ref (za Z 0)), (1, .int l1), (2, .int l2), (3, .int l3), (4, .int l4), (5, .int l5), (6, .int l6)] → W p l e rm_X12_reachEnds s m args below meth c H locs 0 0 (MQ below (xQv E (zD Z) vwCl 24 (za Z) (tM Z) (tysM Z) res) args s 0 0 (ws_A 24 (za Z))) (F0 m 17 ls []) := by
  have C0 := C
  obtain ⟨hx, hb, hr, hlocks, hml, hown, hts, hE, hJ, hK⟩ := C0
  intro n
  induction n with
  | zero =>
    intro σ l1 l2 l3 l4 l5 l6  h
    cases h
  | succ n ih =>
    intro σ l1 l2 l3 l4 l5 l6  h H locs hP hS ls hl
    have hc17 : ∀ (σ : SG) (l1 : Int32) (l2 : Int32) (l3 : Int32) (l4 : Int32) (l5 : Int32) (l6 : Int32) , m_X12_reachEnds_17    n σ l1 l2 l3 l4 l5 l6 = some res → ∀ (H : Heap) (locs : List Loc), ws_P (zD Z) vwCl 24 (za Z) (tM Z) σ H → va_S (ws_A 24 (za Z)) s.heap H locs → ∀ (ls : Array Slot), lv_has ls 13 [(0, .ref (za Z 0)), (1, .int l1), (2, .int l2), (3, .int l3), (4, .int l4), (5, .int l5), (6, .int l6)] → W p l e rm_X12_reachEnds s m args below meth c H locs 0 0 (MQ below (xQv E (zD Z) vwCl 24 (za Z) (tM Z) (tysM Z) res) args s 0 0 (ws_A 24 (za Z))) (F0 m 17 ls []) := ih
    have h : m_X12_reachEnds_17_s    (m_X12_reachEnds_17    n) σ l1 l2 l3 l4 l5 l6 = some res := h
    unfold m_X12_reachEnds_17_s at h
    refine lv_iload hx hb dX12_reachEnds_17 (lv_at hl 6 rfl) ?_
    refine lv_aload_n hx hb dX12_reachEnds_19 rfl (lv_at hl 0 rfl) ?_
    refine wr_get (C := RX12) (T := TX12) (N := 41) hx hb hts (in_X12_reachEnds_X12) hown hK hP (k := 0) (by decide) ((tM_0 Z) _ _ _) rfl 3 (by decide) (hts (.fieldLink RX12 18 "TuneSearchModel" "size" "[I") (by decide +kernel)) (fun _ h9 => h9) rfl dX12_reachEnds_20 ?_
    refine lv_bipush (v := 8) hx hb dX12_reachEnds_23 (by decide) ?_
    obtain ⟨b3, h⟩ := gB_e h
    refine wr_iald hx hb hK hP (k := 3) (by decide) 0 ((tM_3 Z) _ _ _) rfl b3 dX12_reachEnds_25 ?_
    refine lv_icmp_gt (tgt := 468) hx hb dX12_reachEnds_26 (by decide) (fun q4 => ?_) (fun q4 => ?_)
    · have h := if_p h q4
      exact xr_vret hx hb hr hlocks hE hJ hK hP hS h dX12_reachEnds_468
    · have h := if_n h q4
      refine lv_iconst (v := 0) hx hb dX12_reachEnds_29 (by decide) ?_
      refine lv_istore (lv' := [(7, .int 0), (0, .ref (za Z 0)), (1, .int l1), (2, .int l2), (3, .int l3), (4, .int l4), (5, .int l5), (6, .int l6)]) hx hb dX12_reachEnds_30 hl (by decide) rfl (fun ls hl => ?_)
      exact kb_X12_reachEnds_32 Z    C  hc17 FV σ l1 l2 l3 l4 l5 l6 0 h H locs hP hS ls (lv_sub hl [1, 2, 3, 4, 5, 6, 7, 0] rfl)
def m_X12_reachEnds_0    (σ : SG) (p0 : Int32) (p1 : Int32) : Option (Unit × SG) :=
  lS (24 * p0) (fun v1 => m_X12_reachEnds_17    FV σ p0 p1 25 192 v1 0)
set_option maxHeartbeats 4000000 in
set_option maxRecDepth 100000 in
theorem kb_X12_reachEnds_0 {p : Program} {l : Launch} {e : Env} {s : State} {m : MethodId} {args : Array Value} {below : List Frame} {meth : Method} {c : Code} {E : EF} (Z : ZT)    (C : cy p s m args meth c cX12_reachEnds none 13 RX12 wsX12_reachEnds E (zD Z) vwCl 24 (za Z) (tysM Z)) {res : Unit × SG}   : ∀ (σ : SG) (p0 : Int32) (p1 : Int32) , m_X12_reachEnds_0    σ p0 p1 = some res → ∀ (H : Heap) (locs : List Loc), ws_P (zD Z) vwCl 24 (za Z) (tM Z) σ H → va_S (ws_A 24 (za Z)) s.heap H locs → ∀ (ls : Array Slot), lv_has ls 13 [(0, .ref (za Z 0)), (1, .int p0), (2, .int p1)] → W p l e rm_X12_reachEnds s m args below meth c H locs 0 0 (MQ below (xQv E (zD Z) vwCl 24 (za Z) (tM Z) (tysM Z) res) args s 0 0 (ws_A 24 (za Z))) (F0 m 0 ls []) := by
  have C0 := C
  obtain ⟨hx, hb, hr, hlocks, hml, hown, hts, hE, hJ, hK⟩ := C0
  intro σ p0 p1  h H locs hP hS ls hl
  unfold m_X12_reachEnds_0 at h
  refine lv_bipush (v := 25) hx hb dX12_reachEnds_0 (by decide) ?_
  refine lv_istore_n (lv' := [(3, .int 25), (0, .ref (za Z 0)), (1, .int p0), (2, .int p1)]) hx hb dX12_reachEnds_2 rfl hl (by decide) rfl (fun ls hl => ?_)
  refine lv_sipush (v := 192) hx hb dX12_reachEnds_3 (by decide) ?_
  refine lv_istore (lv' := [(4, .int 192), (3, .int 25), (0, .ref (za Z 0)), (1, .int p0), (2, .int p1)]) hx hb dX12_reachEnds_6 hl (by decide) rfl (fun ls hl => ?_)
  refine lv_bipush (v := 24) hx hb dX12_reachEnds_8 (by decide) ?_
  refine lv_iload_n hx hb dX12_reachEnds_10 rfl (lv_at hl 3 rfl) ?_
  refine lv_imul hx hb dX12_reachEnds_11 ?_
  refine lv_topi (fun v1 e2 => ?_)
  have h := lS_u h e2
  refine lv_istore (lv' := [(5, .int v1), (4, .int 192), (3, .int 25), (0, .ref (za Z 0)), (1, .int p0), (2, .int p1)]) hx hb dX12_reachEnds_12 hl (by decide) rfl (fun ls hl => ?_)
  refine lv_iconst (v := 0) hx hb dX12_reachEnds_14 (by decide) ?_
  refine lv_istore (lv' := [(6, .int 0), (5, .int v1), (4, .int 192), (3, .int 25), (0, .ref (za Z 0)), (1, .int p0), (2, .int p1)]) hx hb dX12_reachEnds_15 hl (by decide) rfl (fun ls hl => ?_)
  exact kb_X12_reachEnds_17 Z    C   FV σ p0 p1 25 192 v1 0 h H locs hP hS ls (lv_sub hl [4, 5, 6, 3, 2, 1, 0] rfl)
def m_X12_reachEnds   (σ : SG) (p0 : Int32) (p1 : Int32) : Option (Unit × SG) := m_X12_reachEnds_0   σ p0 p1
set_option maxHeartbeats 4000000 in
set_option maxRecDepth 100000 in
theorem k_X12_reachEnds (l : Launch) {E : EF} (Z : ZT)    (σ : SG) (p0 : Int32) (p1 : Int32) {res : Unit × SG} (h : m_X12_reachEnds   σ p0 p1 = some res) : Met l yX12_reachEnds wsX12_reachEnds rm_X12_reachEnds (va_Pc [.ref (za Z 0), .int p0, .int p1] (wx E (zD Z) vwCl 24 (za Z) (tM Z) (tysM Z) σ)) (xQv E (zD Z) vwCl 24 (za Z) (tM Z) (tysM Z) res) 0 0 (ws_A 24 (za Z)) := by
  refine Met.ofW (cc := cX12_reachEnds) (maxL := 13) (ret := none) (by decide) rfl ?_
  intro p e s m args below meth c s₁ B hml hv
  obtain ⟨rfl, hE, hJ, hP, hK⟩ := hv
  have hl := lv_entry ([.ref (za Z 0), .int p0, .int p1]) (n := 13) (Nat.le_of_ble_eq_true rfl)
  rw [lg_entry_eq]
  generalize (lg_sl ([.ref (za Z 0), .int p0, .int p1]) ++ List.replicate (13 - (lg_sl ([.ref (za Z 0), .int p0, .int p1])).length) Slot.unset).toArray = ls at hl ⊢
  exact kb_X12_reachEnds_0 Z    ⟨B.exec, B.bytes, B.returns, B.notSynchronized, hml, findClass_of_methodNamed B.named, atoms_spec (ws := wsX12_reachEnds) B.pre, hE, hJ, hK⟩ σ p0 p1 h s.heap [] hP va_S.rf ls hl
/-! TuneSearchModel.families(I)I -/
abbrev rm_X12_families : Room := { frames := 4, cells := 0, slots := 0, locals := 101 }
theorem in_X12_families_X12 : ∀ w ∈ wsX120, w ∈ wsX12_families := by decide +kernel
def m_X12_families_228   (c204 : SG → Int32 → Int32 → Option (Int32 × SG)) (σ : SG) (l3 : Int32) (s0 : Int32) (s1 : Int32) : Option (Int32 × SG) :=
  lS (s1 + s0) (fun v19 => lS (l3 + 1) (fun v21 => c204 σ v19 v21))
set_option maxHeartbeats 4000000 in
set_option maxRecDepth 100000 in
theorem kb_X12_families_228 {p : Program} {l : Launch} {e : Env} {s : State} {m : MethodId} {args : Array Value} {below : List Frame} {meth : Method} {c : Code} {E : EF} (Z : ZT)    (C : cy p s m args meth c cX12_families (some .int) 7 RX12 wsX12_families E (zD Z) vwCl 24 (za Z) (tysM Z)) {res : Int32 × SG} {c204 : SG → Int32 → Int32 → Option (Int32 × SG)} (hc204 : ∀ (σ : SG) (l2 : Int32) (l3 : Int32) , c204 σ l2 l3 = some res → ∀ (H : Heap) (locs : List Loc), ws_P (zD Z) vwCl 24 (za Z) (tM Z) σ H → va_S (ws_A 24 (za Z)) s.heap H locs → ∀ (ls : Array Slot), lv_has ls 7 [(0, .ref (za Z 0)), (2, .int l2), (3, .int l3)] → W p l e rm_X12_families s m args below meth c H locs 0 0 (MQ below (xQi E (zD Z) vwCl 24 (za Z) (tM Z) (tysM Z) res) args s 0 0 (ws_A 24 (za Z))) (F0 m 204 ls [])) : ∀ (σ : SG) (l3 : Int32) (s0 : Int32) (s1 : Int32) , m_X12_families_228   c204 σ l3 s0 s1 = some res → ∀ (H : Heap) (locs : List Loc), ws_P (zD Z) vwCl 24 (za Z) (tM Z) σ H → va_S (ws_A 24 (za Z)) s.heap H locs → ∀ (ls : Array Slot), lv_has ls 7 [(0, .ref (za Z 0)), (3, .int l3)] → W p l e rm_X12_families s m args below meth c H locs 0 0 (MQ below (xQi E (zD Z) vwCl 24 (za Z) (tM Z) (tysM Z) res) args s 0 0 (ws_A 24 (za Z))) (F0 m 228 ls [.int s0, .int s1]) := by
  have C0 := C
  obtain ⟨hx, hb, hr, hlocks, hml, hown, hts, hE, hJ, hK⟩ := C0
  intro σ l3 s0 s1  h H locs hP hS ls hl
  unfold m_X12_families_228 at h
  refine lv_iadd hx hb dX12_families_228 ?_
  refine lv_topi (fun v19 e20 => ?_)
  have h := lS_u h e20
  refine lv_istore_n (lv' := [(2, .int v19), (0, .ref (za Z 0)), (3, .int l3)]) hx hb dX12_families_229 rfl hl (by decide) rfl (fun ls hl => ?_)
  obtain ⟨v21, e22, h⟩ := lS_e h
  refine lv_iinc (v := v21) (lv' := [(3, .int v21), (2, .int v19), (0, .ref (za Z 0))]) hx hb dX12_families_230 hl (k := 2) rfl (by rw [e22]; rfl) (by decide) rfl (fun ls hl => ?_)
  refine lv_goto (tgt := 204) hx hb dX12_families_233 (by decide) ?_
  exact hc204 σ v19 v21 h H locs hP hS ls (lv_sub hl [2, 1, 0] rfl)
def m_X12_families_204_s    (c204 : SG → Int32 → Int32 → Option (Int32 × SG)) (σ : SG) (l2 : Int32) (l3 : Int32) : Option (Int32 × SG) :=
  if (σ.1 0 4) ≤ l3 then (some (l2, σ)) else (gB (inB l3 8) (if ¬ (σ.1 23 l3.toNatClampNeg) = l3 then (m_X12_families_228   c204 σ l3 0 l2) else (m_X12_families_228   c204 σ l3 1 l2)))
def m_X12_families_204    : Nat → SG → Int32 → Int32 → Option (Int32 × SG)
  | 0, _, _, _ => none
  | n + 1, σ, l2, l3 => m_X12_families_204_s    (m_X12_families_204    n) σ l2 l3
set_option maxHeartbeats 4000000 in
set_option maxRecDepth 100000 in
theorem kb_X12_families_204 {p : Program} {l : Launch} {e : Env} {s : State} {m : MethodId} {args : Array Value} {below : List Frame} {meth : Method} {c : Code} {E : EF} (Z : ZT)    (C : cy p s m args meth c cX12_families (some .int) 7 RX12 wsX12_families E (zD Z) vwCl 24 (za Z) (tysM Z)) {res : Int32 × SG}   : ∀ (n : Nat) (σ : SG) (l2 : Int32) (l3 : Int32) , m_X12_families_204    n σ l2 l3 = some res → ∀ (H : Heap) (locs : List Loc), ws_P (zD Z) vwCl 24 (za Z) (tM Z) σ H → va_S (ws_A 24 (za Z)) s.heap H locs → ∀ (ls : Array Slot), lv_has ls 7 [(0, .ref (za Z 0)), (2, .int l2), (3, .int l3)] → W p l e rm_X12_families s m args below meth c H locs 0 0 (MQ below (xQi E (zD Z) vwCl 24 (za Z) (tM Z) (tysM Z) res) args s 0 0 (ws_A 24 (za Z))) (F0 m 204 ls []) := by
  have C0 := C
  obtain ⟨hx, hb, hr, hlocks, hml, hown, hts, hE, hJ, hK⟩ := C0
  intro n
  induction n with
  | zero =>
    intro σ l2 l3  h
    cases h
  | succ n ih =>
    intro σ l2 l3  h H locs hP hS ls hl
    have hc204 : ∀ (σ : SG) (l2 : Int32) (l3 : Int32) , m_X12_families_204    n σ l2 l3 = some res → ∀ (H : Heap) (locs : List Loc), ws_P (zD Z) vwCl 24 (za Z) (tM Z) σ H → va_S (ws_A 24 (za Z)) s.heap H locs → ∀ (ls : Array Slot), lv_has ls 7 [(0, .ref (za Z 0)), (2, .int l2), (3, .int l3)] → W p l e rm_X12_families s m args below meth c H locs 0 0 (MQ below (xQi E (zD Z) vwCl 24 (za Z) (tM Z) (tysM Z) res) args s 0 0 (ws_A 24 (za Z))) (F0 m 204 ls []) := ih
    have h : m_X12_families_204_s    (m_X12_families_204    n) σ l2 l3 = some res := h
    unfold m_X12_families_204_s at h
    refine lv_iload_n hx hb dX12_families_204 rfl (lv_at hl 2 rfl) ?_
    refine lv_aload_n hx hb dX12_families_205 rfl (lv_at hl 0 rfl) ?_
    refine wr_get (C := RX12) (T := TX12) (N := 41) hx hb hts (in_X12_families_X12) hown hK hP (k := 0) (by decide) ((tM_0 Z) _ _ _) rfl 4 (by decide) (hts (.fieldLink RX12 90 "TuneSearchModel" "tunes" "I") (by decide +kernel)) (fun _ h9 => h9) rfl dX12_families_206 ?_
    refine lv_icmp_ge (tgt := 236) hx hb dX12_families_209 (by decide) (fun q13 => ?_) (fun q13 => ?_)
    · have h := if_p h q13
      refine lv_iload_n hx hb dX12_families_236 rfl (lv_at hl 1 rfl) ?_
      exact xr_iret hx hb hr hlocks hE hJ hK hP hS h dX12_families_237
    · have h := if_n h q13
      refine lv_iload_n hx hb dX12_families_212 rfl (lv_at hl 1 rfl) ?_
      refine lv_aload_n hx hb dX12_families_213 rfl (lv_at hl 0 rfl) ?_
      refine wr_get (C := RX12) (T := TX12) (N := 41) hx hb hts (in_X12_families_X12) hown hK hP (k := 0) (by decide) ((tM_0 Z) _ _ _) rfl 39 (by decide) (hts (.fieldLink RX12 84 "TuneSearchModel" "family" "[I") (by decide +kernel)) (fun _ h9 => h9) rfl dX12_families_214 ?_
      refine lv_iload_n hx hb dX12_families_217 rfl (lv_at hl 2 rfl) ?_
      obtain ⟨b14, h⟩ := gB_e h
      refine wr_iald hx hb hK hP (k := 23) (by decide) 0 ((tM_23 Z) _ _ _) rfl b14 dX12_families_218 ?_
      refine lv_iload_n hx hb dX12_families_219 rfl (lv_at hl 2 rfl) ?_
      refine lv_icmp_ne (tgt := 227) hx hb dX12_families_220 (by decide) (fun q15 => ?_) (fun q15 => ?_)
      · have h := if_p h q15
        refine lv_iconst (v := 0) hx hb dX12_families_227 (by decide) ?_
        exact kb_X12_families_228 Z    C  hc204 σ l3 0 l2 h H locs hP hS ls (lv_sub hl [0, 2] rfl)
      · have h := if_n h (fun z => z q15)
        refine lv_iconst (v := 1) hx hb dX12_families_223 (by decide) ?_
        refine lv_goto (tgt := 228) hx hb dX12_families_224 (by decide) ?_
        exact kb_X12_families_228 Z    C  hc204 σ l3 1 l2 h H locs hP hS ls (lv_sub hl [0, 2] rfl)
def m_X12_families_181   (c45 : SG → Int32 → Int32 → Option (Int32 × SG)) (c55 : SG → Int32 → Int32 → Int32 → Option (Int32 × SG)) (c66 : SG → Int32 → Int32 → Int32 → Int32 → Option (Int32 × SG)) (σ : SG) (l1 : Int32) (l2 : Int32) (l3 : Int32) (l4 : Int32) (s0 : Int32) (s1 : Int32) : Option (Int32 × SG) :=
  gB (inB s1 8) (lS (sI σ 23 s1.toNatClampNeg s0) (fun σ50 => lS (l4 + 1) (fun v52 => c66 σ50 l1 l2 l3 v52)))
set_option maxHeartbeats 4000000 in
set_option maxRecDepth 100000 in
theorem kb_X12_families_181 {p : Program} {l : Launch} {e : Env} {s : State} {m : MethodId} {args : Array Value} {below : List Frame} {meth : Method} {c : Code} {E : EF} (Z : ZT)    (C : cy p s m args meth c cX12_families (some .int) 7 RX12 wsX12_families E (zD Z) vwCl 24 (za Z) (tysM Z)) {res : Int32 × SG} {c45 : SG → Int32 → Int32 → Option (Int32 × SG)} {c55 : SG → Int32 → Int32 → Int32 → Option (Int32 × SG)} {c66 : SG → Int32 → Int32 → Int32 → Int32 → Option (Int32 × SG)} (hc45 : ∀ (σ : SG) (l1 : Int32) (l2 : Int32) , c45 σ l1 l2 = some res → ∀ (H : Heap) (locs : List Loc), ws_P (zD Z) vwCl 24 (za Z) (tM Z) σ H → va_S (ws_A 24 (za Z)) s.heap H locs → ∀ (ls : Array Slot), lv_has ls 7 [(0, .ref (za Z 0)), (1, .int l1), (2, .int l2)] → W p l e rm_X12_families s m args below meth c H locs 0 0 (MQ below (xQi E (zD Z) vwCl 24 (za Z) (tM Z) (tysM Z) res) args s 0 0 (ws_A 24 (za Z))) (F0 m 45 ls [])) (hc55 : ∀ (σ : SG) (l1 : Int32) (l2 : Int32) (l3 : Int32) , c55 σ l1 l2 l3 = some res → ∀ (H : Heap) (locs : List Loc), ws_P (zD Z) vwCl 24 (za Z) (tM Z) σ H → va_S (ws_A 24 (za Z)) s.heap H locs → ∀ (ls : Array Slot), lv_has ls 7 [(0, .ref (za Z 0)), (1, .int l1), (2, .int l2), (3, .int l3)] → W p l e rm_X12_families s m args below meth c H locs 0 0 (MQ below (xQi E (zD Z) vwCl 24 (za Z) (tM Z) (tysM Z) res) args s 0 0 (ws_A 24 (za Z))) (F0 m 55 ls [])) (hc66 : ∀ (σ : SG) (l1 : Int32) (l2 : Int32) (l3 : Int32) (l4 : Int32) , c66 σ l1 l2 l3 l4 = some res → ∀ (H : Heap) (locs : List Loc), ws_P (zD Z) vwCl 24 (za Z) (tM Z) σ H → va_S (ws_A 24 (za Z)) s.heap H locs → ∀ (ls : Array Slot), lv_has ls 7 [(0, .ref (za Z 0)), (1, .int l1), (2, .int l2), (3, .int l3), (4, .int l4)] → W p l e rm_X12_families s m args below meth c H locs 0 0 (MQ below (xQi E (zD Z) vwCl 24 (za Z) (tM Z) (tysM Z) res) args s 0 0 (ws_A 24 (za Z))) (F0 m 66 ls [])) : ∀ (σ : SG) (l1 : Int32) (l2 : Int32) (l3 : Int32) (l4 : Int32) (s0 : Int32) (s1 : Int32) , m_X12_families_181   c45 c55 c66 σ l1 l2 l3 l4 s0 s1 = some res → ∀ (H : Heap) (locs : List Loc), ws_P (zD Z) vwCl 24 (za Z) (tM Z) σ H → va_S (ws_A 24 (za Z)) s.heap H locs → ∀ (ls : Array Slot), lv_has ls 7 [(0, .ref (za Z 0)), (1, .int l1), (2, .int l2), (3, .int l3), (4, .int l4)] → W p l e rm_X12_families s m args below meth c H locs 0 0 (MQ below (xQi E (zD Z) vwCl 24 (za Z) (tM Z) (tysM Z) res) args s 0 0 (ws_A 24 (za Z))) (F0 m 181 ls [.int s0, .int s1, .ref (za Z 23)]) := by
  have C0 := C
  obtain ⟨hx, hb, hr, hlocks, hml, hown, hts, hE, hJ, hK⟩ := C0
  intro σ l1 l2 l3 l4 s0 s1  h H locs hP hS ls hl
  unfold m_X12_families_181 at h
  obtain ⟨b49, h⟩ := gB_e h
  refine wr_iast hx hb hK hP hJ hS (k := 23) (by decide) 0 (tM_23 Z) rfl b49 dX12_families_181 (fun H locs hP hS => ?_)
  obtain ⟨σ50, e51, h⟩ := lS_e h
  rw [← e51] at hP
  obtain ⟨v52, e53, h⟩ := lS_e h
  refine lv_iinc (v := v52) (lv' := [(4, .int v52), (0, .ref (za Z 0)), (1, .int l1), (2, .int l2), (3, .int l3)]) hx hb dX12_families_182 hl (k := 4) rfl (by rw [e53]; rfl) (by decide) rfl (fun ls hl => ?_)
  refine lv_goto (tgt := 66) hx hb dX12_families_185 (by decide) ?_
  exact hc66 σ50 l1 l2 l3 v52 h H locs hP hS ls (lv_sub hl [1, 2, 3, 4, 0] rfl)
def m_X12_families_157   (c45 : SG → Int32 → Int32 → Option (Int32 × SG)) (c55 : SG → Int32 → Int32 → Int32 → Option (Int32 × SG)) (c66 : SG → Int32 → Int32 → Int32 → Int32 → Option (Int32 × SG)) (σ : SG) (l1 : Int32) (l2 : Int32) (l3 : Int32) (l4 : Int32) (l5 : Int32) (l6 : Int32) (s0 : Int32) (s1 : Int32) : Option (Int32 × SG) :=
  gB (inB s1 8) (lS (sI σ 23 s1.toNatClampNeg s0) (fun σ45 => if l5 = 0 then (gB (inB l4 8) (m_X12_families_181   c45 c55 c66 σ45 l1 l2 l3 l4 (σ45.1 23 l4.toNatClampNeg) l4)) else (m_X12_families_181   c45 c55 c66 σ45 l1 l2 l3 l4 l6 l4)))
set_option maxHeartbeats 4000000 in
set_option maxRecDepth 100000 in
theorem kb_X12_families_157 {p : Program} {l : Launch} {e : Env} {s : State} {m : MethodId} {args : Array Value} {below : List Frame} {meth : Method} {c : Code} {E : EF} (Z : ZT)    (C : cy p s m args meth c cX12_families (some .int) 7 RX12 wsX12_families E (zD Z) vwCl 24 (za Z) (tysM Z)) {res : Int32 × SG} {c45 : SG → Int32 → Int32 → Option (Int32 × SG)} {c55 : SG → Int32 → Int32 → Int32 → Option (Int32 × SG)} {c66 : SG → Int32 → Int32 → Int32 → Int32 → Option (Int32 × SG)} (hc45 : ∀ (σ : SG) (l1 : Int32) (l2 : Int32) , c45 σ l1 l2 = some res → ∀ (H : Heap) (locs : List Loc), ws_P (zD Z) vwCl 24 (za Z) (tM Z) σ H → va_S (ws_A 24 (za Z)) s.heap H locs → ∀ (ls : Array Slot), lv_has ls 7 [(0, .ref (za Z 0)), (1, .int l1), (2, .int l2)] → W p l e rm_X12_families s m args below meth c H locs 0 0 (MQ below (xQi E (zD Z) vwCl 24 (za Z) (tM Z) (tysM Z) res) args s 0 0 (ws_A 24 (za Z))) (F0 m 45 ls [])) (hc55 : ∀ (σ : SG) (l1 : Int32) (l2 : Int32) (l3 : Int32) , c55 σ l1 l2 l3 = some res → ∀ (H : Heap) (locs : List Loc), ws_P (zD Z) vwCl 24 (za Z) (tM Z) σ H → va_S (ws_A 24 (za Z)) s.heap H locs → ∀ (ls : Array Slot), lv_has ls 7 [(0, .ref (za Z 0)), (1, .int l1), (2, .int l2), (3, .int l3)] → W p l e rm_X12_families s m args below meth c H locs 0 0 (MQ below (xQi E (zD Z) vwCl 24 (za Z) (tM Z) (tysM Z) res) args s 0 0 (ws_A 24 (za Z))) (F0 m 55 ls [])) (hc66 : ∀ (σ : SG) (l1 : Int32) (l2 : Int32) (l3 : Int32) (l4 : Int32) , c66 σ l1 l2 l3 l4 = some res → ∀ (H : Heap) (locs : List Loc), ws_P (zD Z) vwCl 24 (za Z) (tM Z) σ H → va_S (ws_A 24 (za Z)) s.heap H locs → ∀ (ls : Array Slot), lv_has ls 7 [(0, .ref (za Z 0)), (1, .int l1), (2, .int l2), (3, .int l3), (4, .int l4)] → W p l e rm_X12_families s m args below meth c H locs 0 0 (MQ below (xQi E (zD Z) vwCl 24 (za Z) (tM Z) (tysM Z) res) args s 0 0 (ws_A 24 (za Z))) (F0 m 66 ls [])) : ∀ (σ : SG) (l1 : Int32) (l2 : Int32) (l3 : Int32) (l4 : Int32) (l5 : Int32) (l6 : Int32) (s0 : Int32) (s1 : Int32) , m_X12_families_157   c45 c55 c66 σ l1 l2 l3 l4 l5 l6 s0 s1 = some res → ∀ (H : Heap) (locs : List Loc), ws_P (zD Z) vwCl 24 (za Z) (tM Z) σ H → va_S (ws_A 24 (za Z)) s.heap H locs → ∀ (ls : Array Slot), lv_has ls 7 [(0, .ref (za Z 0)), (1, .int l1), (2, .int l2), (3, .int l3), (4, .int l4), (5, .int l5), (6, .int l6)] → W p l e rm_X12_families s m args below meth c H locs 0 0 (MQ below (xQi E (zD Z) vwCl 24 (za Z) (tM Z) (tysM Z) res) args s 0 0 (ws_A 24 (za Z))) (F0 m 157 ls [.int s0, .int s1, .ref (za Z 23)]) := by
  have C0 := C
  obtain ⟨hx, hb, hr, hlocks, hml, hown, hts, hE, hJ, hK⟩ := C0
  intro σ l1 l2 l3 l4 l5 l6 s0 s1  h H locs hP hS ls hl
  unfold m_X12_families_157 at h
  obtain ⟨b44, h⟩ := gB_e h
  refine wr_iast hx hb hK hP hJ hS (k := 23) (by decide) 0 (tM_23 Z) rfl b44 dX12_families_157 (fun H locs hP hS => ?_)
  obtain ⟨σ45, e46, h⟩ := lS_e h
  rw [← e46] at hP
  refine lv_aload_n hx hb dX12_families_158 rfl (lv_at hl 0 rfl) ?_
  refine wr_get (C := RX12) (T := TX12) (N := 41) hx hb hts (in_X12_families_X12) hown hK hP (k := 0) (by decide) ((tM_0 Z) _ _ _) rfl 39 (by decide) (hts (.fieldLink RX12 84 "TuneSearchModel" "family" "[I") (by decide +kernel)) (fun _ h9 => h9) rfl dX12_families_159 ?_
  refine lv_iload hx hb dX12_families_162 (lv_at hl 4 rfl) ?_
  refine lv_iload hx hb dX12_families_164 (lv_at hl 5 rfl) ?_
  refine lv_if_eq (tgt := 174) hx hb dX12_families_166 (by decide) (fun q47 => ?_) (fun q47 => ?_)
  · have h := if_p h q47
    refine lv_aload_n hx hb dX12_families_174 rfl (lv_at hl 0 rfl) ?_
    refine wr_get (C := RX12) (T := TX12) (N := 41) hx hb hts (in_X12_families_X12) hown hK hP (k := 0) (by decide) ((tM_0 Z) _ _ _) rfl 39 (by decide) (hts (.fieldLink RX12 84 "TuneSearchModel" "family" "[I") (by decide +kernel)) (fun _ h9 => h9) rfl dX12_families_175 ?_
    refine lv_iload hx hb dX12_families_178 (lv_at hl 4 rfl) ?_
    obtain ⟨b48, h⟩ := gB_e h
    refine wr_iald hx hb hK hP (k := 23) (by decide) 0 ((tM_23 Z) _ _ _) rfl b48 dX12_families_180 ?_
    exact kb_X12_families_181 Z    C  hc45 hc55 hc66 σ45 l1 l2 l3 l4 (σ45.1 23 l4.toNatClampNeg) l4 h H locs hP hS ls (lv_sub hl [0, 1, 2, 3, 4] rfl)
  · have h := if_n h q47
    refine lv_iload hx hb dX12_families_169 (lv_at hl 6 rfl) ?_
    refine lv_goto (tgt := 181) hx hb dX12_families_171 (by decide) ?_
    exact kb_X12_families_181 Z    C  hc45 hc55 hc66 σ45 l1 l2 l3 l4 l6 l4 h H locs hP hS ls (lv_sub hl [0, 1, 2, 3, 4] rfl)
def m_X12_families_116   (c45 : SG → Int32 → Int32 → Option (Int32 × SG)) (c55 : SG → Int32 → Int32 → Int32 → Option (Int32 × SG)) (c66 : SG → Int32 → Int32 → Int32 → Int32 → Option (Int32 × SG)) (σ : SG) (l1 : Int32) (l2 : Int32) (l3 : Int32) (l4 : Int32) (s0 : Int32) : Option (Int32 × SG) :=
  gB (inB l3 8) (gB (inB l4 8) (lS (if (σ.1 23 l4.toNatClampNeg) < (σ.1 23 l3.toNatClampNeg) then (σ.1 23 l4.toNatClampNeg) else (σ.1 23 l3.toNatClampNeg)) (fun v40 => if s0 = 0 then (gB (inB l3 8) (m_X12_families_157   c45 c55 c66 σ l1 l2 l3 l4 s0 v40 (σ.1 23 l3.toNatClampNeg) l3)) else (m_X12_families_157   c45 c55 c66 σ l1 l2 l3 l4 s0 v40 v40 l3))))
set_option maxHeartbeats 4000000 in
set_option maxRecDepth 100000 in
theorem kb_X12_families_116 {p : Program} {l : Launch} {e : Env} {s : State} {m : MethodId} {args : Array Value} {below : List Frame} {meth : Method} {c : Code} {E : EF} (Z : ZT)    (C : cy p s m args meth c cX12_families (some .int) 7 RX12 wsX12_families E (zD Z) vwCl 24 (za Z) (tysM Z)) {res : Int32 × SG} {c45 : SG → Int32 → Int32 → Option (Int32 × SG)} {c55 : SG → Int32 → Int32 → Int32 → Option (Int32 × SG)} {c66 : SG → Int32 → Int32 → Int32 → Int32 → Option (Int32 × SG)} (hc45 : ∀ (σ : SG) (l1 : Int32) (l2 : Int32) , c45 σ l1 l2 = some res → ∀ (H : Heap) (locs : List Loc), ws_P (zD Z) vwCl 24 (za Z) (tM Z) σ H → va_S (ws_A 24 (za Z)) s.heap H locs → ∀ (ls : Array Slot), lv_has ls 7 [(0, .ref (za Z 0)), (1, .int l1), (2, .int l2)] → W p l e rm_X12_families s m args below meth c H locs 0 0 (MQ below (xQi E (zD Z) vwCl 24 (za Z) (tM Z) (tysM Z) res) args s 0 0 (ws_A 24 (za Z))) (F0 m 45 ls [])) (hc55 : ∀ (σ : SG) (l1 : Int32) (l2 : Int32) (l3 : Int32) , c55 σ l1 l2 l3 = some res → ∀ (H : Heap) (locs : List Loc), ws_P (zD Z) vwCl 24 (za Z) (tM Z) σ H → va_S (ws_A 24 (za Z)) s.heap H locs → ∀ (ls : Array Slot), lv_has ls 7 [(0, .ref (za Z 0)), (1, .int l1), (2, .int l2), (3, .int l3)] → W p l e rm_X12_families s m args below meth c H locs 0 0 (MQ below (xQi E (zD Z) vwCl 24 (za Z) (tM Z) (tysM Z) res) args s 0 0 (ws_A 24 (za Z))) (F0 m 55 ls [])) (hc66 : ∀ (σ : SG) (l1 : Int32) (l2 : Int32) (l3 : Int32) (l4 : Int32) , c66 σ l1 l2 l3 l4 = some res → ∀ (H : Heap) (locs : List Loc), ws_P (zD Z) vwCl 24 (za Z) (tM Z) σ H → va_S (ws_A 24 (za Z)) s.heap H locs → ∀ (ls : Array Slot), lv_has ls 7 [(0, .ref (za Z 0)), (1, .int l1), (2, .int l2), (3, .int l3), (4, .int l4)] → W p l e rm_X12_families s m args below meth c H locs 0 0 (MQ below (xQi E (zD Z) vwCl 24 (za Z) (tM Z) (tysM Z) res) args s 0 0 (ws_A 24 (za Z))) (F0 m 66 ls [])) : ∀ (σ : SG) (l1 : Int32) (l2 : Int32) (l3 : Int32) (l4 : Int32) (s0 : Int32) , m_X12_families_116   c45 c55 c66 σ l1 l2 l3 l4 s0 = some res → ∀ (H : Heap) (locs : List Loc), ws_P (zD Z) vwCl 24 (za Z) (tM Z) σ H → va_S (ws_A 24 (za Z)) s.heap H locs → ∀ (ls : Array Slot), lv_has ls 7 [(0, .ref (za Z 0)), (1, .int l1), (2, .int l2), (3, .int l3), (4, .int l4)] → W p l e rm_X12_families s m args below meth c H locs 0 0 (MQ below (xQi E (zD Z) vwCl 24 (za Z) (tM Z) (tysM Z) res) args s 0 0 (ws_A 24 (za Z))) (F0 m 116 ls [.int s0]) := by
  have C0 := C
  obtain ⟨hx, hb, hr, hlocks, hml, hown, hts, hE, hJ, hK⟩ := C0
  intro σ l1 l2 l3 l4 s0  h H locs hP hS ls hl
  unfold m_X12_families_116 at h
  refine lv_istore (lv' := [(5, .int s0), (0, .ref (za Z 0)), (1, .int l1), (2, .int l2), (3, .int l3), (4, .int l4)]) hx hb dX12_families_116 hl (by decide) rfl (fun ls hl => ?_)
  refine lv_aload_n hx hb dX12_families_118 rfl (lv_at hl 1 rfl) ?_
  refine wr_get (C := RX12) (T := TX12) (N := 41) hx hb hts (in_X12_families_X12) hown hK hP (k := 0) (by decide) ((tM_0 Z) _ _ _) rfl 39 (by decide) (hts (.fieldLink RX12 84 "TuneSearchModel" "family" "[I") (by decide +kernel)) (fun _ h9 => h9) rfl dX12_families_119 ?_
  refine lv_iload_n hx hb dX12_families_122 rfl (lv_at hl 4 rfl) ?_
  obtain ⟨b38, h⟩ := gB_e h
  refine wr_iald hx hb hK hP (k := 23) (by decide) 0 ((tM_23 Z) _ _ _) rfl b38 dX12_families_123 ?_
  refine lv_aload_n hx hb dX12_families_124 rfl (lv_at hl 1 rfl) ?_
  refine wr_get (C := RX12) (T := TX12) (N := 41) hx hb hts (in_X12_families_X12) hown hK hP (k := 0) (by decide) ((tM_0 Z) _ _ _) rfl 39 (by decide) (hts (.fieldLink RX12 84 "TuneSearchModel" "family" "[I") (by decide +kernel)) (fun _ h9 => h9) rfl dX12_families_125 ?_
  refine lv_iload hx hb dX12_families_128 (lv_at hl 5 rfl) ?_
  obtain ⟨b39, h⟩ := gB_e h
  refine wr_iald hx hb hK hP (k := 23) (by decide) 0 ((tM_23 Z) _ _ _) rfl b39 dX12_families_130 ?_
  refine va_mmin hx hb (by rw [hml]; exact hl.1.symm) hown (hts (.methodLink RX12 226 Lib.Math.min.name) (by decide +kernel)) (hts (.static Lib.Math.min.name) (by decide +kernel)) (hts (.initialized "java/lang/Math") (by decide +kernel)) (hts (.code Lib.Math.min.name Lib.Math.min.code 2 (some .int)) (by decide +kernel)) (Nat.le_of_ble_eq_true rfl) (Nat.le_of_ble_eq_true rfl) (Nat.le_of_ble_eq_true rfl) (Nat.le_of_ble_eq_true rfl) dX12_families_131 ?_
  refine lv_topi (fun v40 e41 => ?_)
  have h := lS_u h e41
  refine lv_istore (lv' := [(6, .int v40), (5, .int s0), (0, .ref (za Z 0)), (1, .int l1), (2, .int l2), (3, .int l3), (4, .int l4)]) hx hb dX12_families_134 hl (by decide) rfl (fun ls hl => ?_)
  refine lv_aload_n hx hb dX12_families_136 rfl (lv_at hl 2 rfl) ?_
  refine wr_get (C := RX12) (T := TX12) (N := 41) hx hb hts (in_X12_families_X12) hown hK hP (k := 0) (by decide) ((tM_0 Z) _ _ _) rfl 39 (by decide) (hts (.fieldLink RX12 84 "TuneSearchModel" "family" "[I") (by decide +kernel)) (fun _ h9 => h9) rfl dX12_families_137 ?_
  refine lv_iload_n hx hb dX12_families_140 rfl (lv_at hl 5 rfl) ?_
  refine lv_iload hx hb dX12_families_141 (lv_at hl 1 rfl) ?_
  refine lv_if_eq (tgt := 151) hx hb dX12_families_143 (by decide) (fun q42 => ?_) (fun q42 => ?_)
  · have h := if_p h q42
    refine lv_aload_n hx hb dX12_families_151 rfl (lv_at hl 2 rfl) ?_
    refine wr_get (C := RX12) (T := TX12) (N := 41) hx hb hts (in_X12_families_X12) hown hK hP (k := 0) (by decide) ((tM_0 Z) _ _ _) rfl 39 (by decide) (hts (.fieldLink RX12 84 "TuneSearchModel" "family" "[I") (by decide +kernel)) (fun _ h9 => h9) rfl dX12_families_152 ?_
    refine lv_iload_n hx hb dX12_families_155 rfl (lv_at hl 5 rfl) ?_
    obtain ⟨b43, h⟩ := gB_e h
    refine wr_iald hx hb hK hP (k := 23) (by decide) 0 ((tM_23 Z) _ _ _) rfl b43 dX12_families_156 ?_
    exact kb_X12_families_157 Z    C  hc45 hc55 hc66 σ l1 l2 l3 l4 s0 v40 (σ.1 23 l3.toNatClampNeg) l3 h H locs hP hS ls (lv_sub hl [2, 3, 4, 5, 6, 1, 0] rfl)
  · have h := if_n h q42
    refine lv_iload hx hb dX12_families_146 (lv_at hl 0 rfl) ?_
    refine lv_goto (tgt := 157) hx hb dX12_families_148 (by decide) ?_
    exact kb_X12_families_157 Z    C  hc45 hc55 hc66 σ l1 l2 l3 l4 s0 v40 v40 l3 h H locs hP hS ls (lv_sub hl [2, 3, 4, 5, 6, 1, 0] rfl)
def m_X12_families_115   (c45 : SG → Int32 → Int32 → Option (Int32 × SG)) (c55 : SG → Int32 → Int32 → Int32 → Option (Int32 × SG)) (c66 : SG → Int32 → Int32 → Int32 → Int32 → Option (Int32 × SG)) (σ : SG) (l1 : Int32) (l2 : Int32) (l3 : Int32) (l4 : Int32) : Option (Int32 × SG) :=
  m_X12_families_116   c45 c55 c66 σ l1 l2 l3 l4 0
set_option maxHeartbeats 4000000 in
set_option maxRecDepth 100000 in
theorem kb_X12_families_115 {p : Program} {l : Launch} {e : Env} {s : State} {m : MethodId} {args : Array Value} {below : List Frame} {meth : Method} {c : Code} {E : EF} (Z : ZT)    (C : cy p s m args meth c cX12_families (some .int) 7 RX12 wsX12_families E (zD Z) vwCl 24 (za Z) (tysM Z)) {res : Int32 × SG} {c45 : SG → Int32 → Int32 → Option (Int32 × SG)} {c55 : SG → Int32 → Int32 → Int32 → Option (Int32 × SG)} {c66 : SG → Int32 → Int32 → Int32 → Int32 → Option (Int32 × SG)} (hc45 : ∀ (σ : SG) (l1 : Int32) (l2 : Int32) , c45 σ l1 l2 = some res → ∀ (H : Heap) (locs : List Loc), ws_P (zD Z) vwCl 24 (za Z) (tM Z) σ H → va_S (ws_A 24 (za Z)) s.heap H locs → ∀ (ls : Array Slot), lv_has ls 7 [(0, .ref (za Z 0)), (1, .int l1), (2, .int l2)] → W p l e rm_X12_families s m args below meth c H locs 0 0 (MQ below (xQi E (zD Z) vwCl 24 (za Z) (tM Z) (tysM Z) res) args s 0 0 (ws_A 24 (za Z))) (F0 m 45 ls [])) (hc55 : ∀ (σ : SG) (l1 : Int32) (l2 : Int32) (l3 : Int32) , c55 σ l1 l2 l3 = some res → ∀ (H : Heap) (locs : List Loc), ws_P (zD Z) vwCl 24 (za Z) (tM Z) σ H → va_S (ws_A 24 (za Z)) s.heap H locs → ∀ (ls : Array Slot), lv_has ls 7 [(0, .ref (za Z 0)), (1, .int l1), (2, .int l2), (3, .int l3)] → W p l e rm_X12_families s m args below meth c H locs 0 0 (MQ below (xQi E (zD Z) vwCl 24 (za Z) (tM Z) (tysM Z) res) args s 0 0 (ws_A 24 (za Z))) (F0 m 55 ls [])) (hc66 : ∀ (σ : SG) (l1 : Int32) (l2 : Int32) (l3 : Int32) (l4 : Int32) , c66 σ l1 l2 l3 l4 = some res → ∀ (H : Heap) (locs : List Loc), ws_P (zD Z) vwCl 24 (za Z) (tM Z) σ H → va_S (ws_A 24 (za Z)) s.heap H locs → ∀ (ls : Array Slot), lv_has ls 7 [(0, .ref (za Z 0)), (1, .int l1), (2, .int l2), (3, .int l3), (4, .int l4)] → W p l e rm_X12_families s m args below meth c H locs 0 0 (MQ below (xQi E (zD Z) vwCl 24 (za Z) (tM Z) (tysM Z) res) args s 0 0 (ws_A 24 (za Z))) (F0 m 66 ls [])) : ∀ (σ : SG) (l1 : Int32) (l2 : Int32) (l3 : Int32) (l4 : Int32) , m_X12_families_115   c45 c55 c66 σ l1 l2 l3 l4 = some res → ∀ (H : Heap) (locs : List Loc), ws_P (zD Z) vwCl 24 (za Z) (tM Z) σ H → va_S (ws_A 24 (za Z)) s.heap H locs → ∀ (ls : Array Slot), lv_has ls 7 [(0, .ref (za Z 0)), (1, .int l1), (2, .int l2), (3, .int l3), (4, .int l4)] → W p l e rm_X12_families s m args below meth c H locs 0 0 (MQ below (xQi E (zD Z) vwCl 24 (za Z) (tM Z) (tysM Z) res) args s 0 0 (ws_A 24 (za Z))) (F0 m 115 ls []) := by
  have C0 := C
  obtain ⟨hx, hb, hr, hlocks, hml, hown, hts, hE, hJ, hK⟩ := C0
  intro σ l1 l2 l3 l4  h H locs hP hS ls hl
  unfold m_X12_families_115 at h
  refine lv_iconst (v := 0) hx hb dX12_families_115 (by decide) ?_
  exact kb_X12_families_116 Z    C  hc45 hc55 hc66 σ l1 l2 l3 l4 0 h H locs hP hS ls (lv_sub hl [0, 1, 2, 3, 4] rfl)
def m_X12_families_66_s   (c45 : SG → Int32 → Int32 → Option (Int32 × SG)) (c55 : SG → Int32 → Int32 → Int32 → Option (Int32 × SG)) (c66 : SG → Int32 → Int32 → Int32 → Int32 → Option (Int32 × SG)) (σ : SG) (l1 : Int32) (l2 : Int32) (l3 : Int32) (l4 : Int32) : Option (Int32 × SG) :=
  if l3 ≤ l4 then (lS (l3 + 1) (fun v24 => c55 σ l1 l2 v24)) else (gB (inB l3 8) (gB (inB l4 8) (if (σ.1 23 l3.toNatClampNeg) = (σ.1 23 l4.toNatClampNeg) then (m_X12_families_115   c45 c55 c66 σ l1 l2 l3 l4) else (bi (m_X12_distanceOf  σ l3 l4 0) (fun v29 σ30 => bi (m_X12_distanceOf  σ30 l4 l3 0) (fun v32 σ33 => lS (if v32 < v29 then v32 else v29) (fun v35 => if l1 < v35 then (m_X12_families_115   c45 c55 c66 σ33 l1 l2 l3 l4) else (m_X12_families_116   c45 c55 c66 σ33 l1 l2 l3 l4 1))))))))
def m_X12_families_66   (c45 : SG → Int32 → Int32 → Option (Int32 × SG)) (c55 : SG → Int32 → Int32 → Int32 → Option (Int32 × SG)) : Nat → SG → Int32 → Int32 → Int32 → Int32 → Option (Int32 × SG)
  | 0, _, _, _, _, _ => none
  | n + 1, σ, l1, l2, l3, l4 => m_X12_families_66_s   c45 c55 (m_X12_families_66   c45 c55 n) σ l1 l2 l3 l4
set_option maxHeartbeats 4000000 in
set_option maxRecDepth 100000 in
theorem kb_X12_families_66 {p : Program} {l : Launch} {e : Env} {s : State} {m : MethodId} {args : Array Value} {below : List Frame} {meth : Method} {c : Code} {E : EF} (Z : ZT)    (C : cy p s m args meth c cX12_families (some .int) 7 RX12 wsX12_families E (zD Z) vwCl 24 (za Z) (tysM Z)) {res : Int32 × SG} {c45 : SG → Int32 → Int32 → Option (Int32 × SG)} {c55 : SG → Int32 → Int32 → Int32 → Option (Int32 × SG)} (hc45 : ∀ (σ : SG) (l1 : Int32) (l2 : Int32) , c45 σ l1 l2 = some res → ∀ (H : Heap) (locs : List Loc), ws_P (zD Z) vwCl 24 (za Z) (tM Z) σ H → va_S (ws_A 24 (za Z)) s.heap H locs → ∀ (ls : Array Slot), lv_has ls 7 [(0, .ref (za Z 0)), (1, .int l1), (2, .int l2)] → W p l e rm_X12_families s m args below meth c H locs 0 0 (MQ below (xQi E (zD Z) vwCl 24 (za Z) (tM Z) (tysM Z) res) args s 0 0 (ws_A 24 (za Z))) (F0 m 45 ls [])) (hc55 : ∀ (σ : SG) (l1 : Int32) (l2 : Int32) (l3 : Int32) , c55 σ l1 l2 l3 = some res → ∀ (H : Heap) (locs : List Loc), ws_P (zD Z) vwCl 24 (za Z) (tM Z) σ H → va_S (ws_A 24 (za Z)) s.heap H locs → ∀ (ls : Array Slot), lv_has ls 7 [(0, .ref (za Z 0)), (1, .int l1), (2, .int l2), (3, .int l3)] → W p l e rm_X12_families s m args below meth c H locs 0 0 (MQ below (xQi E (zD Z) vwCl 24 (za Z) (tM Z) (tysM Z) res) args s 0 0 (ws_A 24 (za Z))) (F0 m 55 ls [])) : ∀ (n : Nat) (σ : SG) (l1 : Int32) (l2 : Int32) (l3 : Int32) (l4 : Int32) , m_X12_families_66   c45 c55 n σ l1 l2 l3 l4 = some res → ∀ (H : Heap) (locs : List Loc), ws_P (zD Z) vwCl 24 (za Z) (tM Z) σ H → va_S (ws_A 24 (za Z)) s.heap H locs → ∀ (ls : Array Slot), lv_has ls 7 [(0, .ref (za Z 0)), (1, .int l1), (2, .int l2), (3, .int l3), (4, .int l4)] → W p l e rm_X12_families s m args below meth c H locs 0 0 (MQ below (xQi E (zD Z) vwCl 24 (za Z) (tM Z) (tysM Z) res) args s 0 0 (ws_A 24 (za Z))) (F0 m 66 ls []) := by
  have C0 := C
  obtain ⟨hx, hb, hr, hlocks, hml, hown, hts, hE, hJ, hK⟩ := C0
  intro n
  induction n with
  | zero =>
    intro σ l1 l2 l3 l4  h
    cases h
  | succ n ih =>
    intro σ l1 l2 l3 l4  h H locs hP hS ls hl
    have hc66 : ∀ (σ : SG) (l1 : Int32) (l2 : Int32) (l3 : Int32) (l4 : Int32) , m_X12_families_66   c45 c55 n σ l1 l2 l3 l4 = some res → ∀ (H : Heap) (locs : List Loc), ws_P (zD Z) vwCl 24 (za Z) (tM Z) σ H → va_S (ws_A 24 (za Z)) s.heap H locs → ∀ (ls : Array Slot), lv_has ls 7 [(0, .ref (za Z 0)), (1, .int l1), (2, .int l2), (3, .int l3), (4, .int l4)] → W p l e rm_X12_families s m args below meth c H locs 0 0 (MQ below (xQi E (zD Z) vwCl 24 (za Z) (tM Z) (tysM Z) res) args s 0 0 (ws_A 24 (za Z))) (F0 m 66 ls []) := ih
    have h : m_X12_families_66_s   c45 c55 (m_X12_families_66   c45 c55 n) σ l1 l2 l3 l4 = some res := h
    unfold m_X12_families_66_s at h
    refine lv_iload hx hb dX12_families_66 (lv_at hl 4 rfl) ?_
    refine lv_iload_n hx hb dX12_families_68 rfl (lv_at hl 3 rfl) ?_
    refine lv_icmp_ge (tgt := 188) hx hb dX12_families_69 (by decide) (fun q23 => ?_) (fun q23 => ?_)
    · have h := if_p h q23
      obtain ⟨v24, e25, h⟩ := lS_e h
      refine lv_iinc (v := v24) (lv' := [(3, .int v24), (0, .ref (za Z 0)), (1, .int l1), (2, .int l2), (4, .int l4)]) hx hb dX12_families_188 hl (k := 3) rfl (by rw [e25]; rfl) (by decide) rfl (fun ls hl => ?_)
      refine lv_goto (tgt := 55) hx hb dX12_families_191 (by decide) ?_
      exact hc55 σ l1 l2 v24 h H locs hP hS ls (lv_sub hl [1, 2, 3, 0] rfl)
    · have h := if_n h q23
      refine lv_aload_n hx hb dX12_families_72 rfl (lv_at hl 0 rfl) ?_
      refine wr_get (C := RX12) (T := TX12) (N := 41) hx hb hts (in_X12_families_X12) hown hK hP (k := 0) (by decide) ((tM_0 Z) _ _ _) rfl 39 (by decide) (hts (.fieldLink RX12 84 "TuneSearchModel" "family" "[I") (by decide +kernel)) (fun _ h9 => h9) rfl dX12_families_73 ?_
      refine lv_iload_n hx hb dX12_families_76 rfl (lv_at hl 3 rfl) ?_
      obtain ⟨b26, h⟩ := gB_e h
      refine wr_iald hx hb hK hP (k := 23) (by decide) 0 ((tM_23 Z) _ _ _) rfl b26 dX12_families_77 ?_
      refine lv_aload_n hx hb dX12_families_78 rfl (lv_at hl 0 rfl) ?_
      refine wr_get (C := RX12) (T := TX12) (N := 41) hx hb hts (in_X12_families_X12) hown hK hP (k := 0) (by decide) ((tM_0 Z) _ _ _) rfl 39 (by decide) (hts (.fieldLink RX12 84 "TuneSearchModel" "family" "[I") (by decide +kernel)) (fun _ h9 => h9) rfl dX12_families_79 ?_
      refine lv_iload hx hb dX12_families_82 (lv_at hl 4 rfl) ?_
      obtain ⟨b27, h⟩ := gB_e h
      refine wr_iald hx hb hK hP (k := 23) (by decide) 0 ((tM_23 Z) _ _ _) rfl b27 dX12_families_84 ?_
      refine lv_icmp_eq (tgt := 115) hx hb dX12_families_85 (by decide) (fun q28 => ?_) (fun q28 => ?_)
      · have h := if_p h q28
        exact kb_X12_families_115 Z    C  hc45 hc55 hc66 σ l1 l2 l3 l4 h H locs hP hS ls (lv_sub hl [0, 1, 2, 3, 4] rfl)
      · have h := if_n h q28
        refine lv_aload_n hx hb dX12_families_88 rfl (lv_at hl 0 rfl) ?_
        refine lv_iload_n hx hb dX12_families_89 rfl (lv_at hl 3 rfl) ?_
        refine lv_iload hx hb dX12_families_90 (lv_at hl 4 rfl) ?_
        refine lv_iconst (v := 0) hx hb dX12_families_92 (by decide) ?_
        obtain ⟨v29, σ30, hm31, h⟩ := bi_e h
        refine xr_calli (res := (v29, σ30)) (va_runV (As := [.int l3, .int l4, .int 0]) (rest := []) ⟨hx, hb, hml, hown, hts⟩ (k_X12_distanceOf l Z   σ l3 l4 0 hm31) (cwV 3 hts gX12_families_X12_distanceOf rfl rfl rfl (by decide +kernel) ⟨Nat.le_of_ble_eq_true rfl, Nat.le_of_ble_eq_true rfl⟩) ⟨wx_blind, wr_recv hK hP (k := 0) (by decide) ((tM_0 Z) _ _ _) rfl, fun U hU hW => ⟨rfl, wx_at hE hJ hP hK hS hU hW⟩⟩ rfl rfl hl.1 rfl (lv_room (Nat.le_of_ble_eq_true rfl)) dX12_families_93 ⟨Nat.le_of_ble_eq_true rfl, Nat.le_of_ble_eq_true rfl⟩) hS (fun H locs hP hS => ?_)
        have hP : ws_P (zD Z) vwCl 24 (za Z) (tM Z) σ30 H := hP
        refine lv_aload_n hx hb dX12_families_96 rfl (lv_at hl 0 rfl) ?_
        refine lv_iload hx hb dX12_families_97 (lv_at hl 4 rfl) ?_
        refine lv_iload_n hx hb dX12_families_99 rfl (lv_at hl 3 rfl) ?_
        refine lv_iconst (v := 0) hx hb dX12_families_100 (by decide) ?_
        obtain ⟨v32, σ33, hm34, h⟩ := bi_e h
        refine xr_calli (res := (v32, σ33)) (va_runV (As := [.int l4, .int l3, .int 0]) (rest := [.int v29]) ⟨hx, hb, hml, hown, hts⟩ (k_X12_distanceOf l Z   σ30 l4 l3 0 hm34) (cwV 3 hts gX12_families_X12_distanceOf rfl rfl rfl (by decide +kernel) ⟨Nat.le_of_ble_eq_true rfl, Nat.le_of_ble_eq_true rfl⟩) ⟨wx_blind, wr_recv hK hP (k := 0) (by decide) ((tM_0 Z) _ _ _) rfl, fun U hU hW => ⟨rfl, wx_at hE hJ hP hK hS hU hW⟩⟩ rfl rfl hl.1 rfl (lv_room (Nat.le_of_ble_eq_true rfl)) dX12_families_101 ⟨Nat.le_of_ble_eq_true rfl, Nat.le_of_ble_eq_true rfl⟩) hS (fun H locs hP hS => ?_)
        have hP : ws_P (zD Z) vwCl 24 (za Z) (tM Z) σ33 H := hP
        refine va_mmin hx hb (by rw [hml]; exact hl.1.symm) hown (hts (.methodLink RX12 226 Lib.Math.min.name) (by decide +kernel)) (hts (.static Lib.Math.min.name) (by decide +kernel)) (hts (.initialized "java/lang/Math") (by decide +kernel)) (hts (.code Lib.Math.min.name Lib.Math.min.code 2 (some .int)) (by decide +kernel)) (Nat.le_of_ble_eq_true rfl) (Nat.le_of_ble_eq_true rfl) (Nat.le_of_ble_eq_true rfl) (Nat.le_of_ble_eq_true rfl) dX12_families_104 ?_
        refine lv_topi (fun v35 e36 => ?_)
        have h := lS_u h e36
        refine lv_iload_n hx hb dX12_families_107 rfl (lv_at hl 1 rfl) ?_
        refine lv_icmp_gt (tgt := 115) hx hb dX12_families_108 (by decide) (fun q37 => ?_) (fun q37 => ?_)
        · have h := if_p h q37
          exact kb_X12_families_115 Z    C  hc45 hc55 hc66 σ33 l1 l2 l3 l4 h H locs hP hS ls (lv_sub hl [0, 1, 2, 3, 4] rfl)
        · have h := if_n h q37
          refine lv_iconst (v := 1) hx hb dX12_families_111 (by decide) ?_
          refine lv_goto (tgt := 116) hx hb dX12_families_112 (by decide) ?_
          exact kb_X12_families_116 Z    C  hc45 hc55 hc66 σ33 l1 l2 l3 l4 1 h H locs hP hS ls (lv_sub hl [0, 1, 2, 3, 4] rfl)
def m_X12_families_55_s   (c45 : SG → Int32 → Int32 → Option (Int32 × SG)) (c55 : SG → Int32 → Int32 → Int32 → Option (Int32 × SG)) (σ : SG) (l1 : Int32) (l2 : Int32) (l3 : Int32) : Option (Int32 × SG) :=
  if (σ.1 0 4) ≤ l3 then (lS (l2 + 1) (fun v17 => c45 σ l1 v17)) else (m_X12_families_66   c45 c55 FV σ l1 l2 l3 0)
def m_X12_families_55   (c45 : SG → Int32 → Int32 → Option (Int32 × SG)) : Nat → SG → Int32 → Int32 → Int32 → Option (Int32 × SG)
  | 0, _, _, _, _ => none
  | n + 1, σ, l1, l2, l3 => m_X12_families_55_s   c45 (m_X12_families_55   c45 n) σ l1 l2 l3
set_option maxHeartbeats 4000000 in
set_option maxRecDepth 100000 in
theorem kb_X12_families_55 {p : Program} {l : Launch} {e : Env} {s : State} {m : MethodId} {args : Array Value} {below : List Frame} {meth : Method} {c : Code} {E : EF} (Z : ZT)    (C : cy p s m args meth c cX12_families (some .int) 7 RX12 wsX12_families E (zD Z) vwCl 24 (za Z) (tysM Z)) {res : Int32 × SG} {c45 : SG → Int32 → Int32 → Option (Int32 × SG)} (hc45 : ∀ (σ : SG) (l1 : Int32) (l2 : Int32) , c45 σ l1 l2 = some res → ∀ (H : Heap) (locs : List Loc), ws_P (zD Z) vwCl 24 (za Z) (tM Z) σ H → va_S (ws_A 24 (za Z)) s.heap H locs → ∀ (ls : Array Slot), lv_has ls 7 [(0, .ref (za Z 0)), (1, .int l1), (2, .int l2)] → W p l e rm_X12_families s m args below meth c H locs 0 0 (MQ below (xQi E (zD Z) vwCl 24 (za Z) (tM Z) (tysM Z) res) args s 0 0 (ws_A 24 (za Z))) (F0 m 45 ls [])) : ∀ (n : Nat) (σ : SG) (l1 : Int32) (l2 : Int32) (l3 : Int32) , m_X12_families_55   c45 n σ l1 l2 l3 = some res → ∀ (H : Heap) (locs : List Loc), ws_P (zD Z) vwCl 24 (za Z) (tM Z) σ H → va_S (ws_A 24 (za Z)) s.heap H locs → ∀ (ls : Array Slot), lv_has ls 7 [(0, .ref (za Z 0)), (1, .int l1), (2, .int l2), (3, .int l3)] → W p l e rm_X12_families s m args below meth c H locs 0 0 (MQ below (xQi E (zD Z) vwCl 24 (za Z) (tM Z) (tysM Z) res) args s 0 0 (ws_A 24 (za Z))) (F0 m 55 ls []) := by
  have C0 := C
  obtain ⟨hx, hb, hr, hlocks, hml, hown, hts, hE, hJ, hK⟩ := C0
  intro n
  induction n with
  | zero =>
    intro σ l1 l2 l3  h
    cases h
  | succ n ih =>
    intro σ l1 l2 l3  h H locs hP hS ls hl
    have hc55 : ∀ (σ : SG) (l1 : Int32) (l2 : Int32) (l3 : Int32) , m_X12_families_55   c45 n σ l1 l2 l3 = some res → ∀ (H : Heap) (locs : List Loc), ws_P (zD Z) vwCl 24 (za Z) (tM Z) σ H → va_S (ws_A 24 (za Z)) s.heap H locs → ∀ (ls : Array Slot), lv_has ls 7 [(0, .ref (za Z 0)), (1, .int l1), (2, .int l2), (3, .int l3)] → W p l e rm_X12_families s m args below meth c H locs 0 0 (MQ below (xQi E (zD Z) vwCl 24 (za Z) (tM Z) (tysM Z) res) args s 0 0 (ws_A 24 (za Z))) (F0 m 55 ls []) := ih
    have h : m_X12_families_55_s   c45 (m_X12_families_55   c45 n) σ l1 l2 l3 = some res := h
    unfold m_X12_families_55_s at h
    refine lv_iload_n hx hb dX12_families_55 rfl (lv_at hl 3 rfl) ?_
    refine lv_aload_n hx hb dX12_families_56 rfl (lv_at hl 0 rfl) ?_
    refine wr_get (C := RX12) (T := TX12) (N := 41) hx hb hts (in_X12_families_X12) hown hK hP (k := 0) (by decide) ((tM_0 Z) _ _ _) rfl 4 (by decide) (hts (.fieldLink RX12 90 "TuneSearchModel" "tunes" "I") (by decide +kernel)) (fun _ h9 => h9) rfl dX12_families_57 ?_
    refine lv_icmp_ge (tgt := 194) hx hb dX12_families_60 (by decide) (fun q16 => ?_) (fun q16 => ?_)
    · have h := if_p h q16
      obtain ⟨v17, e18, h⟩ := lS_e h
      refine lv_iinc (v := v17) (lv' := [(2, .int v17), (0, .ref (za Z 0)), (1, .int l1), (3, .int l3)]) hx hb dX12_families_194 hl (k := 2) rfl (by rw [e18]; rfl) (by decide) rfl (fun ls hl => ?_)
      refine lv_goto (tgt := 45) hx hb dX12_families_197 (by decide) ?_
      exact hc45 σ l1 v17 h H locs hP hS ls (lv_sub hl [1, 2, 0] rfl)
    · have h := if_n h q16
      refine lv_iconst (v := 0) hx hb dX12_families_63 (by decide) ?_
      refine lv_istore (lv' := [(4, .int 0), (0, .ref (za Z 0)), (1, .int l1), (2, .int l2), (3, .int l3)]) hx hb dX12_families_64 hl (by decide) rfl (fun ls hl => ?_)
      exact kb_X12_families_66 Z    C  hc45 hc55 FV σ l1 l2 l3 0 h H locs hP hS ls (lv_sub hl [1, 2, 3, 4, 0] rfl)
def m_X12_families_45_s    (c45 : SG → Int32 → Int32 → Option (Int32 × SG)) (σ : SG) (l1 : Int32) (l2 : Int32) : Option (Int32 × SG) :=
  if (σ.1 0 4) ≤ l2 then (m_X12_families_204    FV σ 0 0) else (m_X12_families_55   c45 FV σ l1 l2 0)
def m_X12_families_45    : Nat → SG → Int32 → Int32 → Option (Int32 × SG)
  | 0, _, _, _ => none
  | n + 1, σ, l1, l2 => m_X12_families_45_s    (m_X12_families_45    n) σ l1 l2
set_option maxHeartbeats 4000000 in
set_option maxRecDepth 100000 in
theorem kb_X12_families_45 {p : Program} {l : Launch} {e : Env} {s : State} {m : MethodId} {args : Array Value} {below : List Frame} {meth : Method} {c : Code} {E : EF} (Z : ZT)    (C : cy p s m args meth c cX12_families (some .int) 7 RX12 wsX12_families E (zD Z) vwCl 24 (za Z) (tysM Z)) {res : Int32 × SG}   : ∀ (n : Nat) (σ : SG) (l1 : Int32) (l2 : Int32) , m_X12_families_45    n σ l1 l2 = some res → ∀ (H : Heap) (locs : List Loc), ws_P (zD Z) vwCl 24 (za Z) (tM Z) σ H → va_S (ws_A 24 (za Z)) s.heap H locs → ∀ (ls : Array Slot), lv_has ls 7 [(0, .ref (za Z 0)), (1, .int l1), (2, .int l2)] → W p l e rm_X12_families s m args below meth c H locs 0 0 (MQ below (xQi E (zD Z) vwCl 24 (za Z) (tM Z) (tysM Z) res) args s 0 0 (ws_A 24 (za Z))) (F0 m 45 ls []) := by
  have C0 := C
  obtain ⟨hx, hb, hr, hlocks, hml, hown, hts, hE, hJ, hK⟩ := C0
  intro n
  induction n with
  | zero =>
    intro σ l1 l2  h
    cases h
  | succ n ih =>
    intro σ l1 l2  h H locs hP hS ls hl
    have hc45 : ∀ (σ : SG) (l1 : Int32) (l2 : Int32) , m_X12_families_45    n σ l1 l2 = some res → ∀ (H : Heap) (locs : List Loc), ws_P (zD Z) vwCl 24 (za Z) (tM Z) σ H → va_S (ws_A 24 (za Z)) s.heap H locs → ∀ (ls : Array Slot), lv_has ls 7 [(0, .ref (za Z 0)), (1, .int l1), (2, .int l2)] → W p l e rm_X12_families s m args below meth c H locs 0 0 (MQ below (xQi E (zD Z) vwCl 24 (za Z) (tM Z) (tysM Z) res) args s 0 0 (ws_A 24 (za Z))) (F0 m 45 ls []) := ih
    have h : m_X12_families_45_s    (m_X12_families_45    n) σ l1 l2 = some res := h
    unfold m_X12_families_45_s at h
    refine lv_iload_n hx hb dX12_families_45 rfl (lv_at hl 2 rfl) ?_
    refine lv_aload_n hx hb dX12_families_46 rfl (lv_at hl 0 rfl) ?_
    refine wr_get (C := RX12) (T := TX12) (N := 41) hx hb hts (in_X12_families_X12) hown hK hP (k := 0) (by decide) ((tM_0 Z) _ _ _) rfl 4 (by decide) (hts (.fieldLink RX12 90 "TuneSearchModel" "tunes" "I") (by decide +kernel)) (fun _ h9 => h9) rfl dX12_families_47 ?_
    refine lv_icmp_ge (tgt := 200) hx hb dX12_families_50 (by decide) (fun q12 => ?_) (fun q12 => ?_)
    · have h := if_p h q12
      refine lv_iconst (v := 0) hx hb dX12_families_200 (by decide) ?_
      refine lv_istore_n (lv' := [(2, .int 0), (0, .ref (za Z 0)), (1, .int l1)]) hx hb dX12_families_201 rfl hl (by decide) rfl (fun ls hl => ?_)
      refine lv_iconst (v := 0) hx hb dX12_families_202 (by decide) ?_
      refine lv_istore_n (lv' := [(3, .int 0), (2, .int 0), (0, .ref (za Z 0)), (1, .int l1)]) hx hb dX12_families_203 rfl hl (by decide) rfl (fun ls hl => ?_)
      exact kb_X12_families_204 Z    C   FV σ 0 0 h H locs hP hS ls (lv_sub hl [2, 1, 0] rfl)
    · have h := if_n h q12
      refine lv_iconst (v := 0) hx hb dX12_families_53 (by decide) ?_
      refine lv_istore_n (lv' := [(3, .int 0), (0, .ref (za Z 0)), (1, .int l1), (2, .int l2)]) hx hb dX12_families_54 rfl hl (by decide) rfl (fun ls hl => ?_)
      exact kb_X12_families_55 Z    C  hc45 FV σ l1 l2 0 h H locs hP hS ls (lv_sub hl [1, 2, 3, 0] rfl)
def m_X12_families_22_s    (c22 : SG → Int32 → Int32 → Option (Int32 × SG)) (σ : SG) (l1 : Int32) (l2 : Int32) : Option (Int32 × SG) :=
  if (σ.1 0 4) ≤ l2 then (m_X12_families_45    FV σ l1 0) else (gB (inB l2 8) (lS (sI σ 23 l2.toNatClampNeg l2) (fun σ8 => lS (l2 + 1) (fun v10 => c22 σ8 l1 v10))))
def m_X12_families_22    : Nat → SG → Int32 → Int32 → Option (Int32 × SG)
  | 0, _, _, _ => none
  | n + 1, σ, l1, l2 => m_X12_families_22_s    (m_X12_families_22    n) σ l1 l2
set_option maxHeartbeats 4000000 in
set_option maxRecDepth 100000 in
theorem kb_X12_families_22 {p : Program} {l : Launch} {e : Env} {s : State} {m : MethodId} {args : Array Value} {below : List Frame} {meth : Method} {c : Code} {E : EF} (Z : ZT)    (C : cy p s m args meth c cX12_families (some .int) 7 RX12 wsX12_families E (zD Z) vwCl 24 (za Z) (tysM Z)) {res : Int32 × SG}   : ∀ (n : Nat) (σ : SG) (l1 : Int32) (l2 : Int32) , m_X12_families_22    n σ l1 l2 = some res → ∀ (H : Heap) (locs : List Loc), ws_P (zD Z) vwCl 24 (za Z) (tM Z) σ H → va_S (ws_A 24 (za Z)) s.heap H locs → ∀ (ls : Array Slot), lv_has ls 7 [(0, .ref (za Z 0)), (1, .int l1), (2, .int l2)] → W p l e rm_X12_families s m args below meth c H locs 0 0 (MQ below (xQi E (zD Z) vwCl 24 (za Z) (tM Z) (tysM Z) res) args s 0 0 (ws_A 24 (za Z))) (F0 m 22 ls []) := by
  have C0 := C
  obtain ⟨hx, hb, hr, hlocks, hml, hown, hts, hE, hJ, hK⟩ := C0
  intro n
  induction n with
  | zero =>
    intro σ l1 l2  h
    cases h
  | succ n ih =>
    intro σ l1 l2  h H locs hP hS ls hl
    have hc22 : ∀ (σ : SG) (l1 : Int32) (l2 : Int32) , m_X12_families_22    n σ l1 l2 = some res → ∀ (H : Heap) (locs : List Loc), ws_P (zD Z) vwCl 24 (za Z) (tM Z) σ H → va_S (ws_A 24 (za Z)) s.heap H locs → ∀ (ls : Array Slot), lv_has ls 7 [(0, .ref (za Z 0)), (1, .int l1), (2, .int l2)] → W p l e rm_X12_families s m args below meth c H locs 0 0 (MQ below (xQi E (zD Z) vwCl 24 (za Z) (tM Z) (tysM Z) res) args s 0 0 (ws_A 24 (za Z))) (F0 m 22 ls []) := ih
    have h : m_X12_families_22_s    (m_X12_families_22    n) σ l1 l2 = some res := h
    unfold m_X12_families_22_s at h
    refine lv_iload_n hx hb dX12_families_22 rfl (lv_at hl 2 rfl) ?_
    refine lv_aload_n hx hb dX12_families_23 rfl (lv_at hl 0 rfl) ?_
    refine wr_get (C := RX12) (T := TX12) (N := 41) hx hb hts (in_X12_families_X12) hown hK hP (k := 0) (by decide) ((tM_0 Z) _ _ _) rfl 4 (by decide) (hts (.fieldLink RX12 90 "TuneSearchModel" "tunes" "I") (by decide +kernel)) (fun _ h9 => h9) rfl dX12_families_24 ?_
    refine lv_icmp_ge (tgt := 43) hx hb dX12_families_27 (by decide) (fun q6 => ?_) (fun q6 => ?_)
    · have h := if_p h q6
      refine lv_iconst (v := 0) hx hb dX12_families_43 (by decide) ?_
      refine lv_istore_n (lv' := [(2, .int 0), (0, .ref (za Z 0)), (1, .int l1)]) hx hb dX12_families_44 rfl hl (by decide) rfl (fun ls hl => ?_)
      exact kb_X12_families_45 Z    C   FV σ l1 0 h H locs hP hS ls (lv_sub hl [1, 2, 0] rfl)
    · have h := if_n h q6
      refine lv_aload_n hx hb dX12_families_30 rfl (lv_at hl 0 rfl) ?_
      refine wr_get (C := RX12) (T := TX12) (N := 41) hx hb hts (in_X12_families_X12) hown hK hP (k := 0) (by decide) ((tM_0 Z) _ _ _) rfl 39 (by decide) (hts (.fieldLink RX12 84 "TuneSearchModel" "family" "[I") (by decide +kernel)) (fun _ h9 => h9) rfl dX12_families_31 ?_
      refine lv_iload_n hx hb dX12_families_34 rfl (lv_at hl 2 rfl) ?_
      refine lv_iload_n hx hb dX12_families_35 rfl (lv_at hl 2 rfl) ?_
      obtain ⟨b7, h⟩ := gB_e h
      refine wr_iast hx hb hK hP hJ hS (k := 23) (by decide) 0 (tM_23 Z) rfl b7 dX12_families_36 (fun H locs hP hS => ?_)
      obtain ⟨σ8, e9, h⟩ := lS_e h
      rw [← e9] at hP
      obtain ⟨v10, e11, h⟩ := lS_e h
      refine lv_iinc (v := v10) (lv' := [(2, .int v10), (0, .ref (za Z 0)), (1, .int l1)]) hx hb dX12_families_37 hl (k := 2) rfl (by rw [e11]; rfl) (by decide) rfl (fun ls hl => ?_)
      refine lv_goto (tgt := 22) hx hb dX12_families_40 (by decide) ?_
      exact hc22 σ8 l1 v10 h H locs hP hS ls (lv_sub hl [1, 2, 0] rfl)
def m_X12_families_0    (σ : SG) (p0 : Int32) : Option (Int32 × SG) :=
  lS (sI σ 0 0 0) (fun σ1 => if 0 ≤ p0 then (lS (sI σ1 0 40 (σ1.1 0 4)) (fun σ4 => m_X12_families_22    FV σ4 p0 0)) else (some ((-2), σ1)))
set_option maxHeartbeats 4000000 in
set_option maxRecDepth 100000 in
theorem kb_X12_families_0 {p : Program} {l : Launch} {e : Env} {s : State} {m : MethodId} {args : Array Value} {below : List Frame} {meth : Method} {c : Code} {E : EF} (Z : ZT)    (C : cy p s m args meth c cX12_families (some .int) 7 RX12 wsX12_families E (zD Z) vwCl 24 (za Z) (tysM Z)) {res : Int32 × SG}   : ∀ (σ : SG) (p0 : Int32) , m_X12_families_0    σ p0 = some res → ∀ (H : Heap) (locs : List Loc), ws_P (zD Z) vwCl 24 (za Z) (tM Z) σ H → va_S (ws_A 24 (za Z)) s.heap H locs → ∀ (ls : Array Slot), lv_has ls 7 [(0, .ref (za Z 0)), (1, .int p0)] → W p l e rm_X12_families s m args below meth c H locs 0 0 (MQ below (xQi E (zD Z) vwCl 24 (za Z) (tM Z) (tysM Z) res) args s 0 0 (ws_A 24 (za Z))) (F0 m 0 ls []) := by
  have C0 := C
  obtain ⟨hx, hb, hr, hlocks, hml, hown, hts, hE, hJ, hK⟩ := C0
  intro σ p0  h H locs hP hS ls hl
  unfold m_X12_families_0 at h
  refine lv_aload_n hx hb dX12_families_0 rfl (lv_at hl 0 rfl) ?_
  refine lv_iconst (v := 0) hx hb dX12_families_1 (by decide) ?_
  refine wr_put (C := RX12) (T := TX12) (N := 41) (σ' := sI σ 0 0 0) (ty := .int) hx hb hts (in_X12_families_X12) tyX12 tyX12_ok nmX12 hown hK hP hJ hS (k := 0) (by decide) ((tM_0 Z) _ _ _) rfl 0 (by decide) (hts (.fieldLink RX12 87 "TuneSearchModel" "code" "I") (by decide +kernel)) (fun _ h9 => h9) rfl (by decide +kernel) rfl rfl (Nat.le_of_ble_eq_true rfl) (ws_pI (tM_0 Z) rfl) dX12_families_2 (fun H locs hP hS => ?_)
  obtain ⟨σ1, e2, h⟩ := lS_e h
  rw [← e2] at hP
  refine lv_iload_n hx hb dX12_families_5 rfl (lv_at hl 1 rfl) ?_
  refine lv_if_ge (tgt := 12) hx hb dX12_families_6 (by decide) (fun q3 => ?_) (fun q3 => ?_)
  · have h := if_p h q3
    refine lv_aload_n hx hb dX12_families_12 rfl (lv_at hl 0 rfl) ?_
    refine lv_aload_n hx hb dX12_families_13 rfl (lv_at hl 0 rfl) ?_
    refine wr_get (C := RX12) (T := TX12) (N := 41) hx hb hts (in_X12_families_X12) hown hK hP (k := 0) (by decide) ((tM_0 Z) _ _ _) rfl 4 (by decide) (hts (.fieldLink RX12 90 "TuneSearchModel" "tunes" "I") (by decide +kernel)) (fun _ h9 => h9) rfl dX12_families_14 ?_
    refine wr_put (C := RX12) (T := TX12) (N := 41) (σ' := sI σ1 0 40 (σ1.1 0 4)) (ty := .int) hx hb hts (in_X12_families_X12) tyX12 tyX12_ok nmX12 hown hK hP hJ hS (k := 0) (by decide) ((tM_0 Z) _ _ _) rfl 40 (by decide) (hts (.fieldLink RX12 268 "TuneSearchModel" "inFamilies" "I") (by decide +kernel)) (fun _ h9 => h9) rfl (by decide +kernel) rfl rfl (Nat.le_of_ble_eq_true rfl) (ws_pI (tM_0 Z) rfl) dX12_families_17 (fun H locs hP hS => ?_)
    obtain ⟨σ4, e5, h⟩ := lS_e h
    rw [← e5] at hP
    refine lv_iconst (v := 0) hx hb dX12_families_20 (by decide) ?_
    refine lv_istore_n (lv' := [(2, .int 0), (0, .ref (za Z 0)), (1, .int p0)]) hx hb dX12_families_21 rfl hl (by decide) rfl (fun ls hl => ?_)
    exact kb_X12_families_22 Z    C   FV σ4 p0 0 h H locs hP hS ls (lv_sub hl [1, 2, 0] rfl)
  · have h := if_n h q3
    refine lv_bipush (v := (-2)) hx hb dX12_families_9 (by decide) ?_
    exact xr_iret hx hb hr hlocks hE hJ hK hP hS h dX12_families_11
def m_X12_families   (σ : SG) (p0 : Int32) : Option (Int32 × SG) := m_X12_families_0   σ p0
set_option maxHeartbeats 4000000 in
set_option maxRecDepth 100000 in
theorem k_X12_families (l : Launch) {E : EF} (Z : ZT)    (σ : SG) (p0 : Int32) {res : Int32 × SG} (h : m_X12_families   σ p0 = some res) : Met l yX12_families wsX12_families rm_X12_families (va_Pc [.ref (za Z 0), .int p0] (wx E (zD Z) vwCl 24 (za Z) (tM Z) (tysM Z) σ)) (xQi E (zD Z) vwCl 24 (za Z) (tM Z) (tysM Z) res) 0 0 (ws_A 24 (za Z)) := by
  refine Met.ofW (cc := cX12_families) (maxL := 7) (ret := (some .int)) (by decide) rfl ?_
  intro p e s m args below meth c s₁ B hml hv
  obtain ⟨rfl, hE, hJ, hP, hK⟩ := hv
  have hl := lv_entry ([.ref (za Z 0), .int p0]) (n := 7) (Nat.le_of_ble_eq_true rfl)
  rw [lg_entry_eq]
  generalize (lg_sl ([.ref (za Z 0), .int p0]) ++ List.replicate (7 - (lg_sl ([.ref (za Z 0), .int p0])).length) Slot.unset).toArray = ls at hl ⊢
  exact kb_X12_families_0 Z    ⟨B.exec, B.bytes, B.returns, B.notSynchronized, hml, findClass_of_methodNamed B.named, atoms_spec (ws := wsX12_families) B.pre, hE, hJ, hK⟩ σ p0 h s.heap [] hP va_S.rf ls hl
/-! TuneSearchModel.near(II)I -/
abbrev rm_X12_near : Room := { frames := 3, cells := 0, slots := 0, locals := 78 }
theorem in_X12_near_X12 : ∀ w ∈ wsX120, w ∈ wsX12_near := by decide +kernel
def m_X12_near_272   (c41 : SG → Int32 → Int32 → Int32 → Int32 → Option (Int32 × SG)) (c220 : SG → Int32 → Int32 → Int32 → Int32 → Int32 → Option (Int32 × SG)) (σ : SG) (l1 : Int32) (l2 : Int32) (l3 : Int32) (l4 : Int32) (l5 : Int32) : Option (Int32 × SG) :=
  lS (l5 + 1) (fun v38 => c220 σ l1 l2 l3 l4 v38)
set_option maxHeartbeats 4000000 in
set_option maxRecDepth 100000 in
theorem kb_X12_near_272 {p : Program} {l : Launch} {e : Env} {s : State} {m : MethodId} {args : Array Value} {below : List Frame} {meth : Method} {c : Code} {E : EF} (Z : ZT)    (C : cy p s m args meth c cX12_near (some .int) 8 RX12 wsX12_near E (zD Z) vwCl 24 (za Z) (tysM Z)) {res : Int32 × SG} {c41 : SG → Int32 → Int32 → Int32 → Int32 → Option (Int32 × SG)} {c220 : SG → Int32 → Int32 → Int32 → Int32 → Int32 → Option (Int32 × SG)} (hc41 : ∀ (σ : SG) (l1 : Int32) (l2 : Int32) (l3 : Int32) (l4 : Int32) , c41 σ l1 l2 l3 l4 = some res → ∀ (H : Heap) (locs : List Loc), ws_P (zD Z) vwCl 24 (za Z) (tM Z) σ H → va_S (ws_A 24 (za Z)) s.heap H locs → ∀ (ls : Array Slot), lv_has ls 8 [(0, .ref (za Z 0)), (1, .int l1), (2, .int l2), (3, .int l3), (4, .int l4)] → W p l e rm_X12_near s m args below meth c H locs 0 0 (MQ below (xQi E (zD Z) vwCl 24 (za Z) (tM Z) (tysM Z) res) args s 0 0 (ws_A 24 (za Z))) (F0 m 41 ls [])) (hc220 : ∀ (σ : SG) (l1 : Int32) (l2 : Int32) (l3 : Int32) (l4 : Int32) (l5 : Int32) , c220 σ l1 l2 l3 l4 l5 = some res → ∀ (H : Heap) (locs : List Loc), ws_P (zD Z) vwCl 24 (za Z) (tM Z) σ H → va_S (ws_A 24 (za Z)) s.heap H locs → ∀ (ls : Array Slot), lv_has ls 8 [(0, .ref (za Z 0)), (1, .int l1), (2, .int l2), (3, .int l3), (4, .int l4), (5, .int l5)] → W p l e rm_X12_near s m args below meth c H locs 0 0 (MQ below (xQi E (zD Z) vwCl 24 (za Z) (tM Z) (tysM Z) res) args s 0 0 (ws_A 24 (za Z))) (F0 m 220 ls [])) : ∀ (σ : SG) (l1 : Int32) (l2 : Int32) (l3 : Int32) (l4 : Int32) (l5 : Int32) , m_X12_near_272   c41 c220 σ l1 l2 l3 l4 l5 = some res → ∀ (H : Heap) (locs : List Loc), ws_P (zD Z) vwCl 24 (za Z) (tM Z) σ H → va_S (ws_A 24 (za Z)) s.heap H locs → ∀ (ls : Array Slot), lv_has ls 8 [(0, .ref (za Z 0)), (1, .int l1), (2, .int l2), (3, .int l3), (4, .int l4), (5, .int l5)] → W p l e rm_X12_near s m args below meth c H locs 0 0 (MQ below (xQi E (zD Z) vwCl 24 (za Z) (tM Z) (tysM Z) res) args s 0 0 (ws_A 24 (za Z))) (F0 m 272 ls []) := by
  have C0 := C
  obtain ⟨hx, hb, hr, hlocks, hml, hown, hts, hE, hJ, hK⟩ := C0
  intro σ l1 l2 l3 l4 l5  h H locs hP hS ls hl
  unfold m_X12_near_272 at h
  obtain ⟨v38, e39, h⟩ := lS_e h
  refine lv_iinc (v := v38) (lv' := [(5, .int v38), (0, .ref (za Z 0)), (1, .int l1), (2, .int l2), (3, .int l3), (4, .int l4)]) hx hb dX12_near_272 hl (k := 5) rfl (by rw [e39]; rfl) (by decide) rfl (fun ls hl => ?_)
  refine lv_goto (tgt := 220) hx hb dX12_near_275 (by decide) ?_
  exact hc220 σ l1 l2 l3 l4 v38 h H locs hP hS ls (lv_sub hl [1, 2, 3, 4, 5, 0] rfl)
def m_X12_near_220_s   (c41 : SG → Int32 → Int32 → Int32 → Int32 → Option (Int32 × SG)) (c220 : SG → Int32 → Int32 → Int32 → Int32 → Int32 → Option (Int32 × SG)) (σ : SG) (l1 : Int32) (l2 : Int32) (l3 : Int32) (l4 : Int32) (l5 : Int32) : Option (Int32 × SG) :=
  gB (inB l4 9) (if (σ.1 3 l4.toNatClampNeg) < l5 then (lS (l4 + 1) (fun v22 => c41 σ l1 l2 l3 v22)) else (gB (inB l5 25) (if l1 < (σ.1 14 l5.toNatClampNeg) then (m_X12_near_272   c41 c220 σ l1 l2 l3 l4 l5) else (gB (inB l5 25) (gB (inB l5 25) (gB (inB l5 25) (bi (m_X12_find  σ l4 (σ.1 15 l5.toNatClampNeg) l5 (σ.1 14 l5.toNatClampNeg) (σ.1 16 l5.toNatClampNeg)) (fun v29 σ30 => m_X12_near_272   c41 c220 σ30 l1 l2 l3 l4 l5))))))))
def m_X12_near_220   (c41 : SG → Int32 → Int32 → Int32 → Int32 → Option (Int32 × SG)) : Nat → SG → Int32 → Int32 → Int32 → Int32 → Int32 → Option (Int32 × SG)
  | 0, _, _, _, _, _, _ => none
  | n + 1, σ, l1, l2, l3, l4, l5 => m_X12_near_220_s   c41 (m_X12_near_220   c41 n) σ l1 l2 l3 l4 l5
set_option maxHeartbeats 4000000 in
set_option maxRecDepth 100000 in
theorem kb_X12_near_220 {p : Program} {l : Launch} {e : Env} {s : State} {m : MethodId} {args : Array Value} {below : List Frame} {meth : Method} {c : Code} {E : EF} (Z : ZT)    (C : cy p s m args meth c cX12_near (some .int) 8 RX12 wsX12_near E (zD Z) vwCl 24 (za Z) (tysM Z)) {res : Int32 × SG} {c41 : SG → Int32 → Int32 → Int32 → Int32 → Option (Int32 × SG)} (hc41 : ∀ (σ : SG) (l1 : Int32) (l2 : Int32) (l3 : Int32) (l4 : Int32) , c41 σ l1 l2 l3 l4 = some res → ∀ (H : Heap) (locs : List Loc), ws_P (zD Z) vwCl 24 (za Z) (tM Z) σ H → va_S (ws_A 24 (za Z)) s.heap H locs → ∀ (ls : Array Slot), lv_has ls 8 [(0, .ref (za Z 0)), (1, .int l1), (2, .int l2), (3, .int l3), (4, .int l4)] → W p l e rm_X12_near s m args below meth c H locs 0 0 (MQ below (xQi E (zD Z) vwCl 24 (za Z) (tM Z) (tysM Z) res) args s 0 0 (ws_A 24 (za Z))) (F0 m 41 ls [])) : ∀ (n : Nat) (σ : SG) (l1 : Int32) (l2 : Int32) (l3 : Int32) (l4 : Int32) (l5 : Int32) , m_X12_near_220   c41 n σ l1 l2 l3 l4 l5 = some res → ∀ (H : Heap) (locs : List Loc), ws_P (zD Z) vwCl 24 (za Z) (tM Z) σ H → va_S (ws_A 24 (za Z)) s.heap H locs → ∀ (ls : Array Slot), lv_has ls 8 [(0, .ref (za Z 0)), (1, .int l1), (2, .int l2), (3, .int l3), (4, .int l4), (5, .int l5)] → W p l e rm_X12_near s m args below meth c H locs 0 0 (MQ below (xQi E (zD Z) vwCl 24 (za Z) (tM Z) (tysM Z) res) args s 0 0 (ws_A 24 (za Z))) (F0 m 220 ls []) := by
  have C0 := C
  obtain ⟨hx, hb, hr, hlocks, hml, hown, hts, hE, hJ, hK⟩ := C0
  intro n
  induction n with
  | zero =>
    intro σ l1 l2 l3 l4 l5  h
    cases h
  | succ n ih =>
    intro σ l1 l2 l3 l4 l5  h H locs hP hS ls hl
    have hc220 : ∀ (σ : SG) (l1 : Int32) (l2 : Int32) (l3 : Int32) (l4 : Int32) (l5 : Int32) , m_X12_near_220   c41 n σ l1 l2 l3 l4 l5 = some res → ∀ (H : Heap) (locs : List Loc), ws_P (zD Z) vwCl 24 (za Z) (tM Z) σ H → va_S (ws_A 24 (za Z)) s.heap H locs → ∀ (ls : Array Slot), lv_has ls 8 [(0, .ref (za Z 0)), (1, .int l1), (2, .int l2), (3, .int l3), (4, .int l4), (5, .int l5)] → W p l e rm_X12_near s m args below meth c H locs 0 0 (MQ below (xQi E (zD Z) vwCl 24 (za Z) (tM Z) (tysM Z) res) args s 0 0 (ws_A 24 (za Z))) (F0 m 220 ls []) := ih
    have h : m_X12_near_220_s   c41 (m_X12_near_220   c41 n) σ l1 l2 l3 l4 l5 = some res := h
    unfold m_X12_near_220_s at h
    refine lv_iload hx hb dX12_near_220 (lv_at hl 5 rfl) ?_
    refine lv_aload_n hx hb dX12_near_222 rfl (lv_at hl 0 rfl) ?_
    refine wr_get (C := RX12) (T := TX12) (N := 41) hx hb hts (in_X12_near_X12) hown hK hP (k := 0) (by decide) ((tM_0 Z) _ _ _) rfl 3 (by decide) (hts (.fieldLink RX12 18 "TuneSearchModel" "size" "[I") (by decide +kernel)) (fun _ h9 => h9) rfl dX12_near_223 ?_
    refine lv_iload hx hb dX12_near_226 (lv_at hl 4 rfl) ?_
    obtain ⟨b20, h⟩ := gB_e h
    refine wr_iald hx hb hK hP (k := 3) (by decide) 0 ((tM_3 Z) _ _ _) rfl b20 dX12_near_228 ?_
    refine lv_icmp_gt (tgt := 278) hx hb dX12_near_229 (by decide) (fun q21 => ?_) (fun q21 => ?_)
    · have h := if_p h q21
      obtain ⟨v22, e23, h⟩ := lS_e h
      refine lv_iinc (v := v22) (lv' := [(4, .int v22), (0, .ref (za Z 0)), (1, .int l1), (2, .int l2), (3, .int l3), (5, .int l5)]) hx hb dX12_near_278 hl (k := 4) rfl (by rw [e23]; rfl) (by decide) rfl (fun ls hl => ?_)
      refine lv_goto (tgt := 41) hx hb dX12_near_281 (by decide) ?_
      exact hc41 σ l1 l2 l3 v22 h H locs hP hS ls (lv_sub hl [1, 2, 3, 4, 0] rfl)
    · have h := if_n h q21
      refine lv_aload_n hx hb dX12_near_232 rfl (lv_at hl 0 rfl) ?_
      refine wr_get (C := RX12) (T := TX12) (N := 41) hx hb hts (in_X12_near_X12) hown hK hP (k := 0) (by decide) ((tM_0 Z) _ _ _) rfl 29 (by decide) (hts (.fieldLink RX12 56 "TuneSearchModel" "endCost" "[I") (by decide +kernel)) (fun _ h9 => h9) rfl dX12_near_233 ?_
      refine lv_iload hx hb dX12_near_236 (lv_at hl 5 rfl) ?_
      obtain ⟨b24, h⟩ := gB_e h
      refine wr_iald hx hb hK hP (k := 14) (by decide) 0 ((tM_14 Z) _ _ _) rfl b24 dX12_near_238 ?_
      refine lv_iload_n hx hb dX12_near_239 rfl (lv_at hl 1 rfl) ?_
      refine lv_icmp_gt (tgt := 272) hx hb dX12_near_240 (by decide) (fun q25 => ?_) (fun q25 => ?_)
      · have h := if_p h q25
        exact kb_X12_near_272 Z    C  hc41 hc220 σ l1 l2 l3 l4 l5 h H locs hP hS ls (lv_sub hl [0, 1, 2, 3, 4, 5] rfl)
      · have h := if_n h q25
        refine lv_aload_n hx hb dX12_near_243 rfl (lv_at hl 0 rfl) ?_
        refine lv_iload hx hb dX12_near_244 (lv_at hl 4 rfl) ?_
        refine lv_aload_n hx hb dX12_near_246 rfl (lv_at hl 0 rfl) ?_
        refine wr_get (C := RX12) (T := TX12) (N := 41) hx hb hts (in_X12_near_X12) hown hK hP (k := 0) (by decide) ((tM_0 Z) _ _ _) rfl 30 (by decide) (hts (.fieldLink RX12 59 "TuneSearchModel" "endFrom" "[I") (by decide +kernel)) (fun _ h9 => h9) rfl dX12_near_247 ?_
        refine lv_iload hx hb dX12_near_250 (lv_at hl 5 rfl) ?_
        obtain ⟨b26, h⟩ := gB_e h
        refine wr_iald hx hb hK hP (k := 15) (by decide) 0 ((tM_15 Z) _ _ _) rfl b26 dX12_near_252 ?_
        refine lv_iload hx hb dX12_near_253 (lv_at hl 5 rfl) ?_
        refine lv_aload_n hx hb dX12_near_255 rfl (lv_at hl 0 rfl) ?_
        refine wr_get (C := RX12) (T := TX12) (N := 41) hx hb hts (in_X12_near_X12) hown hK hP (k := 0) (by decide) ((tM_0 Z) _ _ _) rfl 29 (by decide) (hts (.fieldLink RX12 56 "TuneSearchModel" "endCost" "[I") (by decide +kernel)) (fun _ h9 => h9) rfl dX12_near_256 ?_
        refine lv_iload hx hb dX12_near_259 (lv_at hl 5 rfl) ?_
        obtain ⟨b27, h⟩ := gB_e h
        refine wr_iald hx hb hK hP (k := 14) (by decide) 0 ((tM_14 Z) _ _ _) rfl b27 dX12_near_261 ?_
        refine lv_aload_n hx hb dX12_near_262 rfl (lv_at hl 0 rfl) ?_
        refine wr_get (C := RX12) (T := TX12) (N := 41) hx hb hts (in_X12_near_X12) hown hK hP (k := 0) (by decide) ((tM_0 Z) _ _ _) rfl 31 (by decide) (hts (.fieldLink RX12 62 "TuneSearchModel" "endShift" "[I") (by decide +kernel)) (fun _ h9 => h9) rfl dX12_near_263 ?_
        refine lv_iload hx hb dX12_near_266 (lv_at hl 5 rfl) ?_
        obtain ⟨b28, h⟩ := gB_e h
        refine wr_iald hx hb hK hP (k := 16) (by decide) 0 ((tM_16 Z) _ _ _) rfl b28 dX12_near_268 ?_
        obtain ⟨v29, σ30, hm31, h⟩ := bi_e h
        refine xr_callv (res := (v29, σ30)) (va_runV (As := [.int l4, .int (σ.1 15 l5.toNatClampNeg), .int l5, .int (σ.1 14 l5.toNatClampNeg), .int (σ.1 16 l5.toNatClampNeg)]) (rest := []) ⟨hx, hb, hml, hown, hts⟩ (k_X12_find l Z   σ l4 (σ.1 15 l5.toNatClampNeg) l5 (σ.1 14 l5.toNatClampNeg) (σ.1 16 l5.toNatClampNeg) hm31) (cwV 5 hts gX12_near_X12_find rfl rfl rfl (by decide +kernel) ⟨Nat.le_of_ble_eq_true rfl, Nat.le_of_ble_eq_true rfl⟩) ⟨wx_blind, wr_recv hK hP (k := 0) (by decide) ((tM_0 Z) _ _ _) rfl, fun U hU hW => ⟨rfl, wx_at hE hJ hP hK hS hU hW⟩⟩ rfl rfl hl.1 rfl (lv_room (Nat.le_of_ble_eq_true rfl)) dX12_near_269 ⟨Nat.le_of_ble_eq_true rfl, Nat.le_of_ble_eq_true rfl⟩) hS (fun H locs hP hS => ?_)
        have hP : ws_P (zD Z) vwCl 24 (za Z) (tM Z) σ30 H := hP
        exact kb_X12_near_272 Z    C  hc41 hc220 σ30 l1 l2 l3 l4 l5 h H locs hP hS ls (lv_sub hl [0, 1, 2, 3, 4, 5] rfl)
def m_X12_near_205   (c41 : SG → Int32 → Int32 → Int32 → Int32 → Option (Int32 × SG)) (c83 : SG → Int32 → Int32 → Int32 → Int32 → Int32 → Option (Int32 × SG)) (c94 : SG → Int32 → Int32 → Int32 → Int32 → Int32 → Int32 → Option (Int32 × SG)) (σ : SG) (l1 : Int32) (l2 : Int32) (l3 : Int32) (l4 : Int32) (l5 : Int32) (s0 : Int32) (s1 : Int32) : Option (Int32 × SG) :=
  lS (s1 + s0) (fun v57 => c94 σ l1 l2 l3 l4 l5 v57)
set_option maxHeartbeats 4000000 in
set_option maxRecDepth 100000 in
theorem kb_X12_near_205 {p : Program} {l : Launch} {e : Env} {s : State} {m : MethodId} {args : Array Value} {below : List Frame} {meth : Method} {c : Code} {E : EF} (Z : ZT)    (C : cy p s m args meth c cX12_near (some .int) 8 RX12 wsX12_near E (zD Z) vwCl 24 (za Z) (tysM Z)) {res : Int32 × SG} {c41 : SG → Int32 → Int32 → Int32 → Int32 → Option (Int32 × SG)} {c83 : SG → Int32 → Int32 → Int32 → Int32 → Int32 → Option (Int32 × SG)} {c94 : SG → Int32 → Int32 → Int32 → Int32 → Int32 → Int32 → Option (Int32 × SG)} (hc41 : ∀ (σ : SG) (l1 : Int32) (l2 : Int32) (l3 : Int32) (l4 : Int32) , c41 σ l1 l2 l3 l4 = some res → ∀ (H : Heap) (locs : List Loc), ws_P (zD Z) vwCl 24 (za Z) (tM Z) σ H → va_S (ws_A 24 (za Z)) s.heap H locs → ∀ (ls : Array Slot), lv_has ls 8 [(0, .ref (za Z 0)), (1, .int l1), (2, .int l2), (3, .int l3), (4, .int l4)] → W p l e rm_X12_near s m args below meth c H locs 0 0 (MQ below (xQi E (zD Z) vwCl 24 (za Z) (tM Z) (tysM Z) res) args s 0 0 (ws_A 24 (za Z))) (F0 m 41 ls [])) (hc83 : ∀ (σ : SG) (l1 : Int32) (l2 : Int32) (l3 : Int32) (l4 : Int32) (l5 : Int32) , c83 σ l1 l2 l3 l4 l5 = some res → ∀ (H : Heap) (locs : List Loc), ws_P (zD Z) vwCl 24 (za Z) (tM Z) σ H → va_S (ws_A 24 (za Z)) s.heap H locs → ∀ (ls : Array Slot), lv_has ls 8 [(0, .ref (za Z 0)), (1, .int l1), (2, .int l2), (3, .int l3), (4, .int l4), (5, .int l5)] → W p l e rm_X12_near s m args below meth c H locs 0 0 (MQ below (xQi E (zD Z) vwCl 24 (za Z) (tM Z) (tysM Z) res) args s 0 0 (ws_A 24 (za Z))) (F0 m 83 ls [])) (hc94 : ∀ (σ : SG) (l1 : Int32) (l2 : Int32) (l3 : Int32) (l4 : Int32) (l5 : Int32) (l6 : Int32) , c94 σ l1 l2 l3 l4 l5 l6 = some res → ∀ (H : Heap) (locs : List Loc), ws_P (zD Z) vwCl 24 (za Z) (tM Z) σ H → va_S (ws_A 24 (za Z)) s.heap H locs → ∀ (ls : Array Slot), lv_has ls 8 [(0, .ref (za Z 0)), (1, .int l1), (2, .int l2), (3, .int l3), (4, .int l4), (5, .int l5), (6, .int l6)] → W p l e rm_X12_near s m args below meth c H locs 0 0 (MQ below (xQi E (zD Z) vwCl 24 (za Z) (tM Z) (tysM Z) res) args s 0 0 (ws_A 24 (za Z))) (F0 m 94 ls [])) : ∀ (σ : SG) (l1 : Int32) (l2 : Int32) (l3 : Int32) (l4 : Int32) (l5 : Int32) (s0 : Int32) (s1 : Int32) , m_X12_near_205   c41 c83 c94 σ l1 l2 l3 l4 l5 s0 s1 = some res → ∀ (H : Heap) (locs : List Loc), ws_P (zD Z) vwCl 24 (za Z) (tM Z) σ H → va_S (ws_A 24 (za Z)) s.heap H locs → ∀ (ls : Array Slot), lv_has ls 8 [(0, .ref (za Z 0)), (1, .int l1), (2, .int l2), (3, .int l3), (4, .int l4), (5, .int l5)] → W p l e rm_X12_near s m args below meth c H locs 0 0 (MQ below (xQi E (zD Z) vwCl 24 (za Z) (tM Z) (tysM Z) res) args s 0 0 (ws_A 24 (za Z))) (F0 m 205 ls [.int s0, .int s1]) := by
  have C0 := C
  obtain ⟨hx, hb, hr, hlocks, hml, hown, hts, hE, hJ, hK⟩ := C0
  intro σ l1 l2 l3 l4 l5 s0 s1  h H locs hP hS ls hl
  unfold m_X12_near_205 at h
  refine lv_iadd hx hb dX12_near_205 ?_
  refine lv_topi (fun v57 e58 => ?_)
  have h := lS_u h e58
  refine lv_istore (lv' := [(6, .int v57), (0, .ref (za Z 0)), (1, .int l1), (2, .int l2), (3, .int l3), (4, .int l4), (5, .int l5)]) hx hb dX12_near_206 hl (by decide) rfl (fun ls hl => ?_)
  refine lv_goto (tgt := 94) hx hb dX12_near_208 (by decide) ?_
  exact hc94 σ l1 l2 l3 l4 l5 v57 h H locs hP hS ls (lv_sub hl [1, 2, 3, 4, 5, 6, 0] rfl)
def m_X12_near_184   (c41 : SG → Int32 → Int32 → Int32 → Int32 → Option (Int32 × SG)) (c83 : SG → Int32 → Int32 → Int32 → Int32 → Int32 → Option (Int32 × SG)) (c94 : SG → Int32 → Int32 → Int32 → Int32 → Int32 → Int32 → Option (Int32 × SG)) (c112 : SG → Int32 → Int32 → Int32 → Int32 → Int32 → Int32 → Int32 → Option (Int32 × SG)) (σ : SG) (l1 : Int32) (l2 : Int32) (l3 : Int32) (l4 : Int32) (l5 : Int32) (l6 : Int32) (l7 : Int32) : Option (Int32 × SG) :=
  lS (l7 + 1) (fun v59 => c112 σ l1 l2 l3 l4 l5 l6 v59)
set_option maxHeartbeats 4000000 in
set_option maxRecDepth 100000 in
theorem kb_X12_near_184 {p : Program} {l : Launch} {e : Env} {s : State} {m : MethodId} {args : Array Value} {below : List Frame} {meth : Method} {c : Code} {E : EF} (Z : ZT)    (C : cy p s m args meth c cX12_near (some .int) 8 RX12 wsX12_near E (zD Z) vwCl 24 (za Z) (tysM Z)) {res : Int32 × SG} {c41 : SG → Int32 → Int32 → Int32 → Int32 → Option (Int32 × SG)} {c83 : SG → Int32 → Int32 → Int32 → Int32 → Int32 → Option (Int32 × SG)} {c94 : SG → Int32 → Int32 → Int32 → Int32 → Int32 → Int32 → Option (Int32 × SG)} {c112 : SG → Int32 → Int32 → Int32 → Int32 → Int32 → Int32 → Int32 → Option (Int32 × SG)} (hc41 : ∀ (σ : SG) (l1 : Int32) (l2 : Int32) (l3 : Int32) (l4 : Int32) , c41 σ l1 l2 l3 l4 = some res → ∀ (H : Heap) (locs : List Loc), ws_P (zD Z) vwCl 24 (za Z) (tM Z) σ H → va_S (ws_A 24 (za Z)) s.heap H locs → ∀ (ls : Array Slot), lv_has ls 8 [(0, .ref (za Z 0)), (1, .int l1), (2, .int l2), (3, .int l3), (4, .int l4)] → W p l e rm_X12_near s m args below meth c H locs 0 0 (MQ below (xQi E (zD Z) vwCl 24 (za Z) (tM Z) (tysM Z) res) args s 0 0 (ws_A 24 (za Z))) (F0 m 41 ls [])) (hc83 : ∀ (σ : SG) (l1 : Int32) (l2 : Int32) (l3 : Int32) (l4 : Int32) (l5 : Int32) , c83 σ l1 l2 l3 l4 l5 = some res → ∀ (H : Heap) (locs : List Loc), ws_P (zD Z) vwCl 24 (za Z) (tM Z) σ H → va_S (ws_A 24 (za Z)) s.heap H locs → ∀ (ls : Array Slot), lv_has ls 8 [(0, .ref (za Z 0)), (1, .int l1), (2, .int l2), (3, .int l3), (4, .int l4), (5, .int l5)] → W p l e rm_X12_near s m args below meth c H locs 0 0 (MQ below (xQi E (zD Z) vwCl 24 (za Z) (tM Z) (tysM Z) res) args s 0 0 (ws_A 24 (za Z))) (F0 m 83 ls [])) (hc94 : ∀ (σ : SG) (l1 : Int32) (l2 : Int32) (l3 : Int32) (l4 : Int32) (l5 : Int32) (l6 : Int32) , c94 σ l1 l2 l3 l4 l5 l6 = some res → ∀ (H : Heap) (locs : List Loc), ws_P (zD Z) vwCl 24 (za Z) (tM Z) σ H → va_S (ws_A 24 (za Z)) s.heap H locs → ∀ (ls : Array Slot), lv_has ls 8 [(0, .ref (za Z 0)), (1, .int l1), (2, .int l2), (3, .int l3), (4, .int l4), (5, .int l5), (6, .int l6)] → W p l e rm_X12_near s m args below meth c H locs 0 0 (MQ below (xQi E (zD Z) vwCl 24 (za Z) (tM Z) (tysM Z) res) args s 0 0 (ws_A 24 (za Z))) (F0 m 94 ls [])) (hc112 : ∀ (σ : SG) (l1 : Int32) (l2 : Int32) (l3 : Int32) (l4 : Int32) (l5 : Int32) (l6 : Int32) (l7 : Int32) , c112 σ l1 l2 l3 l4 l5 l6 l7 = some res → ∀ (H : Heap) (locs : List Loc), ws_P (zD Z) vwCl 24 (za Z) (tM Z) σ H → va_S (ws_A 24 (za Z)) s.heap H locs → ∀ (ls : Array Slot), lv_has ls 8 [(0, .ref (za Z 0)), (1, .int l1), (2, .int l2), (3, .int l3), (4, .int l4), (5, .int l5), (6, .int l6), (7, .int l7)] → W p l e rm_X12_near s m args below meth c H locs 0 0 (MQ below (xQi E (zD Z) vwCl 24 (za Z) (tM Z) (tysM Z) res) args s 0 0 (ws_A 24 (za Z))) (F0 m 112 ls [])) : ∀ (σ : SG) (l1 : Int32) (l2 : Int32) (l3 : Int32) (l4 : Int32) (l5 : Int32) (l6 : Int32) (l7 : Int32) , m_X12_near_184   c41 c83 c94 c112 σ l1 l2 l3 l4 l5 l6 l7 = some res → ∀ (H : Heap) (locs : List Loc), ws_P (zD Z) vwCl 24 (za Z) (tM Z) σ H → va_S (ws_A 24 (za Z)) s.heap H locs → ∀ (ls : Array Slot), lv_has ls 8 [(0, .ref (za Z 0)), (1, .int l1), (2, .int l2), (3, .int l3), (4, .int l4), (5, .int l5), (6, .int l6), (7, .int l7)] → W p l e rm_X12_near s m args below meth c H locs 0 0 (MQ below (xQi E (zD Z) vwCl 24 (za Z) (tM Z) (tysM Z) res) args s 0 0 (ws_A 24 (za Z))) (F0 m 184 ls []) := by
  have C0 := C
  obtain ⟨hx, hb, hr, hlocks, hml, hown, hts, hE, hJ, hK⟩ := C0
  intro σ l1 l2 l3 l4 l5 l6 l7  h H locs hP hS ls hl
  unfold m_X12_near_184 at h
  obtain ⟨v59, e60, h⟩ := lS_e h
  refine lv_iinc (v := v59) (lv' := [(7, .int v59), (0, .ref (za Z 0)), (1, .int l1), (2, .int l2), (3, .int l3), (4, .int l4), (5, .int l5), (6, .int l6)]) hx hb dX12_near_184 hl (k := 7) rfl (by rw [e60]; rfl) (by decide) rfl (fun ls hl => ?_)
  refine lv_goto (tgt := 112) hx hb dX12_near_187 (by decide) ?_
  exact hc112 σ l1 l2 l3 l4 l5 l6 v59 h H locs hP hS ls (lv_sub hl [1, 2, 3, 4, 5, 6, 7, 0] rfl)
def m_X12_near_112_s   (c41 : SG → Int32 → Int32 → Int32 → Int32 → Option (Int32 × SG)) (c83 : SG → Int32 → Int32 → Int32 → Int32 → Int32 → Option (Int32 × SG)) (c94 : SG → Int32 → Int32 → Int32 → Int32 → Int32 → Int32 → Option (Int32 × SG)) (c112 : SG → Int32 → Int32 → Int32 → Int32 → Int32 → Int32 → Int32 → Option (Int32 × SG)) (σ : SG) (l1 : Int32) (l2 : Int32) (l3 : Int32) (l4 : Int32) (l5 : Int32) (l6 : Int32) (l7 : Int32) : Option (Int32 × SG) :=
  gB (inB l4 9) (if (σ.1 3 l4.toNatClampNeg) < l7 then (if ¬ l5 = 0 then (m_X12_near_205   c41 c83 c94 σ l1 l2 l3 l4 l5 (2 * l5) l6) else (m_X12_near_205   c41 c83 c94 σ l1 l2 l3 l4 l5 1 l6)) else (gB (inB (l3 + l7) 325) (gB (inB l7 25) (if (σ.1 14 l7.toNatClampNeg) ≤ (σ.1 12 (l3 + l7).toNatClampNeg) then (m_X12_near_184   c41 c83 c94 c112 σ l1 l2 l3 l4 l5 l6 l7) else (gB (inB (l3 + l7) 325) (gB (inB l7 25) (lS (sI σ 14 l7.toNatClampNeg (σ.1 12 (l3 + l7).toNatClampNeg)) (fun σ48 => gB (inB (l3 + l7) 325) (gB (inB l7 25) (lS (sI σ48 15 l7.toNatClampNeg (σ48.1 13 (l3 + l7).toNatClampNeg)) (fun σ52 => gB (inB l7 25) (lS (sI σ52 16 l7.toNatClampNeg l6) (fun σ55 => m_X12_near_184   c41 c83 c94 c112 σ55 l1 l2 l3 l4 l5 l6 l7)))))))))))))
def m_X12_near_112   (c41 : SG → Int32 → Int32 → Int32 → Int32 → Option (Int32 × SG)) (c83 : SG → Int32 → Int32 → Int32 → Int32 → Int32 → Option (Int32 × SG)) (c94 : SG → Int32 → Int32 → Int32 → Int32 → Int32 → Int32 → Option (Int32 × SG)) : Nat → SG → Int32 → Int32 → Int32 → Int32 → Int32 → Int32 → Int32 → Option (Int32 × SG)
  | 0, _, _, _, _, _, _, _, _ => none
  | n + 1, σ, l1, l2, l3, l4, l5, l6, l7 => m_X12_near_112_s   c41 c83 c94 (m_X12_near_112   c41 c83 c94 n) σ l1 l2 l3 l4 l5 l6 l7
set_option maxHeartbeats 4000000 in
set_option maxRecDepth 100000 in
theorem kb_X12_near_112 {p : Program} {l : Launch} {e : Env} {s : State} {m : MethodId} {args : Array Value} {below : List Frame} {meth : Method} {c : Code} {E : EF} (Z : ZT)    (C : cy p s m args meth c cX12_near (some .int) 8 RX12 wsX12_near E (zD Z) vwCl 24 (za Z) (tysM Z)) {res : Int32 × SG} {c41 : SG → Int32 → Int32 → Int32 → Int32 → Option (Int32 × SG)} {c83 : SG → Int32 → Int32 → Int32 → Int32 → Int32 → Option (Int32 × SG)} {c94 : SG → Int32 → Int32 → Int32 → Int32 → Int32 → Int32 → Option (Int32 × SG)} (hc41 : ∀ (σ : SG) (l1 : Int32) (l2 : Int32) (l3 : Int32) (l4 : Int32) , c41 σ l1 l2 l3 l4 = some res → ∀ (H : Heap) (locs : List Loc), ws_P (zD Z) vwCl 24 (za Z) (tM Z) σ H → va_S (ws_A 24 (za Z)) s.heap H locs → ∀ (ls : Array Slot), lv_has ls 8 [(0, .ref (za Z 0)), (1, .int l1), (2, .int l2), (3, .int l3), (4, .int l4)] → W p l e rm_X12_near s m args below meth c H locs 0 0 (MQ below (xQi E (zD Z) vwCl 24 (za Z) (tM Z) (tysM Z) res) args s 0 0 (ws_A 24 (za Z))) (F0 m 41 ls [])) (hc83 : ∀ (σ : SG) (l1 : Int32) (l2 : Int32) (l3 : Int32) (l4 : Int32) (l5 : Int32) , c83 σ l1 l2 l3 l4 l5 = some res → ∀ (H : Heap) (locs : List Loc), ws_P (zD Z) vwCl 24 (za Z) (tM Z) σ H → va_S (ws_A 24 (za Z)) s.heap H locs → ∀ (ls : Array Slot), lv_has ls 8 [(0, .ref (za Z 0)), (1, .int l1), (2, .int l2), (3, .int l3), (4, .int l4), (5, .int l5)] → W p l e rm_X12_near s m args below meth c H locs 0 0 (MQ below (xQi E (zD Z) vwCl 24 (za Z) (tM Z) (tysM Z) res) args s 0 0 (ws_A 24 (za Z))) (F0 m 83 ls [])) (hc94 : ∀ (σ : SG) (l1 : Int32) (l2 : Int32) (l3 : Int32) (l4 : Int32) (l5 : Int32) (l6 : Int32) , c94 σ l1 l2 l3 l4 l5 l6 = some res → ∀ (H : Heap) (locs : List Loc), ws_P (zD Z) vwCl 24 (za Z) (tM Z) σ H → va_S (ws_A 24 (za Z)) s.heap H locs → ∀ (ls : Array Slot), lv_has ls 8 [(0, .ref (za Z 0)), (1, .int l1), (2, .int l2), (3, .int l3), (4, .int l4), (5, .int l5), (6, .int l6)] → W p l e rm_X12_near s m args below meth c H locs 0 0 (MQ below (xQi E (zD Z) vwCl 24 (za Z) (tM Z) (tysM Z) res) args s 0 0 (ws_A 24 (za Z))) (F0 m 94 ls [])) : ∀ (n : Nat) (σ : SG) (l1 : Int32) (l2 : Int32) (l3 : Int32) (l4 : Int32) (l5 : Int32) (l6 : Int32) (l7 : Int32) , m_X12_near_112   c41 c83 c94 n σ l1 l2 l3 l4 l5 l6 l7 = some res → ∀ (H : Heap) (locs : List Loc), ws_P (zD Z) vwCl 24 (za Z) (tM Z) σ H → va_S (ws_A 24 (za Z)) s.heap H locs → ∀ (ls : Array Slot), lv_has ls 8 [(0, .ref (za Z 0)), (1, .int l1), (2, .int l2), (3, .int l3), (4, .int l4), (5, .int l5), (6, .int l6), (7, .int l7)] → W p l e rm_X12_near s m args below meth c H locs 0 0 (MQ below (xQi E (zD Z) vwCl 24 (za Z) (tM Z) (tysM Z) res) args s 0 0 (ws_A 24 (za Z))) (F0 m 112 ls []) := by
  have C0 := C
  obtain ⟨hx, hb, hr, hlocks, hml, hown, hts, hE, hJ, hK⟩ := C0
  intro n
  induction n with
  | zero =>
    intro σ l1 l2 l3 l4 l5 l6 l7  h
    cases h
  | succ n ih =>
    intro σ l1 l2 l3 l4 l5 l6 l7  h H locs hP hS ls hl
    have hc112 : ∀ (σ : SG) (l1 : Int32) (l2 : Int32) (l3 : Int32) (l4 : Int32) (l5 : Int32) (l6 : Int32) (l7 : Int32) , m_X12_near_112   c41 c83 c94 n σ l1 l2 l3 l4 l5 l6 l7 = some res → ∀ (H : Heap) (locs : List Loc), ws_P (zD Z) vwCl 24 (za Z) (tM Z) σ H → va_S (ws_A 24 (za Z)) s.heap H locs → ∀ (ls : Array Slot), lv_has ls 8 [(0, .ref (za Z 0)), (1, .int l1), (2, .int l2), (3, .int l3), (4, .int l4), (5, .int l5), (6, .int l6), (7, .int l7)] → W p l e rm_X12_near s m args below meth c H locs 0 0 (MQ below (xQi E (zD Z) vwCl 24 (za Z) (tM Z) (tysM Z) res) args s 0 0 (ws_A 24 (za Z))) (F0 m 112 ls []) := ih
    have h : m_X12_near_112_s   c41 c83 c94 (m_X12_near_112   c41 c83 c94 n) σ l1 l2 l3 l4 l5 l6 l7 = some res := h
    unfold m_X12_near_112_s at h
    refine lv_iload hx hb dX12_near_112 (lv_at hl 7 rfl) ?_
    refine lv_aload_n hx hb dX12_near_114 rfl (lv_at hl 0 rfl) ?_
    refine wr_get (C := RX12) (T := TX12) (N := 41) hx hb hts (in_X12_near_X12) hown hK hP (k := 0) (by decide) ((tM_0 Z) _ _ _) rfl 3 (by decide) (hts (.fieldLink RX12 18 "TuneSearchModel" "size" "[I") (by decide +kernel)) (fun _ h9 => h9) rfl dX12_near_115 ?_
    refine lv_iload hx hb dX12_near_118 (lv_at hl 4 rfl) ?_
    obtain ⟨b40, h⟩ := gB_e h
    refine wr_iald hx hb hK hP (k := 3) (by decide) 0 ((tM_3 Z) _ _ _) rfl b40 dX12_near_120 ?_
    refine lv_icmp_gt (tgt := 190) hx hb dX12_near_121 (by decide) (fun q41 => ?_) (fun q41 => ?_)
    · have h := if_p h q41
      refine lv_iload hx hb dX12_near_190 (lv_at hl 6 rfl) ?_
      refine lv_iload hx hb dX12_near_192 (lv_at hl 5 rfl) ?_
      refine lv_if_ne (tgt := 201) hx hb dX12_near_194 (by decide) (fun q42 => ?_) (fun q42 => ?_)
      · have h := if_p h q42
        refine lv_iconst (v := 2) hx hb dX12_near_201 (by decide) ?_
        refine lv_iload hx hb dX12_near_202 (lv_at hl 5 rfl) ?_
        refine lv_imul hx hb dX12_near_204 ?_
        exact kb_X12_near_205 Z    C  hc41 hc83 hc94 σ l1 l2 l3 l4 l5 (2 * l5) l6 h H locs hP hS ls (lv_sub hl [0, 1, 2, 3, 4, 5] rfl)
      · have h := if_n h (fun z => z q42)
        refine lv_iconst (v := 1) hx hb dX12_near_197 (by decide) ?_
        refine lv_goto (tgt := 205) hx hb dX12_near_198 (by decide) ?_
        exact kb_X12_near_205 Z    C  hc41 hc83 hc94 σ l1 l2 l3 l4 l5 1 l6 h H locs hP hS ls (lv_sub hl [0, 1, 2, 3, 4, 5] rfl)
    · have h := if_n h q41
      refine lv_aload_n hx hb dX12_near_124 rfl (lv_at hl 0 rfl) ?_
      refine wr_get (C := RX12) (T := TX12) (N := 41) hx hb hts (in_X12_near_X12) hown hK hP (k := 0) (by decide) ((tM_0 Z) _ _ _) rfl 27 (by decide) (hts (.fieldLink RX12 50 "TuneSearchModel" "behindCost" "[I") (by decide +kernel)) (fun _ h9 => h9) rfl dX12_near_125 ?_
      refine lv_iload_n hx hb dX12_near_128 rfl (lv_at hl 3 rfl) ?_
      refine lv_iload hx hb dX12_near_129 (lv_at hl 7 rfl) ?_
      refine lv_iadd hx hb dX12_near_131 ?_
      obtain ⟨b43, h⟩ := gB_e h
      refine wr_iald hx hb hK hP (k := 12) (by decide) 0 ((tM_12 Z) _ _ _) rfl b43 dX12_near_132 ?_
      refine lv_aload_n hx hb dX12_near_133 rfl (lv_at hl 0 rfl) ?_
      refine wr_get (C := RX12) (T := TX12) (N := 41) hx hb hts (in_X12_near_X12) hown hK hP (k := 0) (by decide) ((tM_0 Z) _ _ _) rfl 29 (by decide) (hts (.fieldLink RX12 56 "TuneSearchModel" "endCost" "[I") (by decide +kernel)) (fun _ h9 => h9) rfl dX12_near_134 ?_
      refine lv_iload hx hb dX12_near_137 (lv_at hl 7 rfl) ?_
      obtain ⟨b44, h⟩ := gB_e h
      refine wr_iald hx hb hK hP (k := 14) (by decide) 0 ((tM_14 Z) _ _ _) rfl b44 dX12_near_139 ?_
      refine lv_icmp_ge (tgt := 184) hx hb dX12_near_140 (by decide) (fun q45 => ?_) (fun q45 => ?_)
      · have h := if_p h q45
        exact kb_X12_near_184 Z    C  hc41 hc83 hc94 hc112 σ l1 l2 l3 l4 l5 l6 l7 h H locs hP hS ls (lv_sub hl [0, 1, 2, 3, 4, 5, 6, 7] rfl)
      · have h := if_n h q45
        refine lv_aload_n hx hb dX12_near_143 rfl (lv_at hl 0 rfl) ?_
        refine wr_get (C := RX12) (T := TX12) (N := 41) hx hb hts (in_X12_near_X12) hown hK hP (k := 0) (by decide) ((tM_0 Z) _ _ _) rfl 29 (by decide) (hts (.fieldLink RX12 56 "TuneSearchModel" "endCost" "[I") (by decide +kernel)) (fun _ h9 => h9) rfl dX12_near_144 ?_
        refine lv_iload hx hb dX12_near_147 (lv_at hl 7 rfl) ?_
        refine lv_aload_n hx hb dX12_near_149 rfl (lv_at hl 0 rfl) ?_
        refine wr_get (C := RX12) (T := TX12) (N := 41) hx hb hts (in_X12_near_X12) hown hK hP (k := 0) (by decide) ((tM_0 Z) _ _ _) rfl 27 (by decide) (hts (.fieldLink RX12 50 "TuneSearchModel" "behindCost" "[I") (by decide +kernel)) (fun _ h9 => h9) rfl dX12_near_150 ?_
        refine lv_iload_n hx hb dX12_near_153 rfl (lv_at hl 3 rfl) ?_
        refine lv_iload hx hb dX12_near_154 (lv_at hl 7 rfl) ?_
        refine lv_iadd hx hb dX12_near_156 ?_
        obtain ⟨b46, h⟩ := gB_e h
        refine wr_iald hx hb hK hP (k := 12) (by decide) 0 ((tM_12 Z) _ _ _) rfl b46 dX12_near_157 ?_
        obtain ⟨b47, h⟩ := gB_e h
        refine wr_iast hx hb hK hP hJ hS (k := 14) (by decide) 0 (tM_14 Z) rfl b47 dX12_near_158 (fun H locs hP hS => ?_)
        obtain ⟨σ48, e49, h⟩ := lS_e h
        rw [← e49] at hP
        refine lv_aload_n hx hb dX12_near_159 rfl (lv_at hl 0 rfl) ?_
        refine wr_get (C := RX12) (T := TX12) (N := 41) hx hb hts (in_X12_near_X12) hown hK hP (k := 0) (by decide) ((tM_0 Z) _ _ _) rfl 30 (by decide) (hts (.fieldLink RX12 59 "TuneSearchModel" "endFrom" "[I") (by decide +kernel)) (fun _ h9 => h9) rfl dX12_near_160 ?_
        refine lv_iload hx hb dX12_near_163 (lv_at hl 7 rfl) ?_
        refine lv_aload_n hx hb dX12_near_165 rfl (lv_at hl 0 rfl) ?_
        refine wr_get (C := RX12) (T := TX12) (N := 41) hx hb hts (in_X12_near_X12) hown hK hP (k := 0) (by decide) ((tM_0 Z) _ _ _) rfl 28 (by decide) (hts (.fieldLink RX12 53 "TuneSearchModel" "behindFrom" "[I") (by decide +kernel)) (fun _ h9 => h9) rfl dX12_near_166 ?_
        refine lv_iload_n hx hb dX12_near_169 rfl (lv_at hl 3 rfl) ?_
        refine lv_iload hx hb dX12_near_170 (lv_at hl 7 rfl) ?_
        refine lv_iadd hx hb dX12_near_172 ?_
        obtain ⟨b50, h⟩ := gB_e h
        refine wr_iald hx hb hK hP (k := 13) (by decide) 0 ((tM_13 Z) _ _ _) rfl b50 dX12_near_173 ?_
        obtain ⟨b51, h⟩ := gB_e h
        refine wr_iast hx hb hK hP hJ hS (k := 15) (by decide) 0 (tM_15 Z) rfl b51 dX12_near_174 (fun H locs hP hS => ?_)
        obtain ⟨σ52, e53, h⟩ := lS_e h
        rw [← e53] at hP
        refine lv_aload_n hx hb dX12_near_175 rfl (lv_at hl 0 rfl) ?_
        refine wr_get (C := RX12) (T := TX12) (N := 41) hx hb hts (in_X12_near_X12) hown hK hP (k := 0) (by decide) ((tM_0 Z) _ _ _) rfl 31 (by decide) (hts (.fieldLink RX12 62 "TuneSearchModel" "endShift" "[I") (by decide +kernel)) (fun _ h9 => h9) rfl dX12_near_176 ?_
        refine lv_iload hx hb dX12_near_179 (lv_at hl 7 rfl) ?_
        refine lv_iload hx hb dX12_near_181 (lv_at hl 6 rfl) ?_
        obtain ⟨b54, h⟩ := gB_e h
        refine wr_iast hx hb hK hP hJ hS (k := 16) (by decide) 0 (tM_16 Z) rfl b54 dX12_near_183 (fun H locs hP hS => ?_)
        obtain ⟨σ55, e56, h⟩ := lS_e h
        rw [← e56] at hP
        exact kb_X12_near_184 Z    C  hc41 hc83 hc94 hc112 σ55 l1 l2 l3 l4 l5 l6 l7 h H locs hP hS ls (lv_sub hl [0, 1, 2, 3, 4, 5, 6, 7] rfl)
def m_X12_near_94_s   (c41 : SG → Int32 → Int32 → Int32 → Int32 → Option (Int32 × SG)) (c83 : SG → Int32 → Int32 → Int32 → Int32 → Int32 → Option (Int32 × SG)) (c94 : SG → Int32 → Int32 → Int32 → Int32 → Int32 → Int32 → Option (Int32 × SG)) (σ : SG) (l1 : Int32) (l2 : Int32) (l3 : Int32) (l4 : Int32) (l5 : Int32) (l6 : Int32) : Option (Int32 × SG) :=
  if l5 < l6 then (lS (l5 + 1) (fun v33 => c83 σ l1 l2 l3 l4 v33)) else (bi (m_X12_reachEnds  σ l4 l6) (fun v35 σ36 => m_X12_near_112   c41 c83 c94 FV σ36 l1 l2 l3 l4 l5 l6 0))
def m_X12_near_94   (c41 : SG → Int32 → Int32 → Int32 → Int32 → Option (Int32 × SG)) (c83 : SG → Int32 → Int32 → Int32 → Int32 → Int32 → Option (Int32 × SG)) : Nat → SG → Int32 → Int32 → Int32 → Int32 → Int32 → Int32 → Option (Int32 × SG)
  | 0, _, _, _, _, _, _, _ => none
  | n + 1, σ, l1, l2, l3, l4, l5, l6 => m_X12_near_94_s   c41 c83 (m_X12_near_94   c41 c83 n) σ l1 l2 l3 l4 l5 l6
set_option maxHeartbeats 4000000 in
set_option maxRecDepth 100000 in
theorem kb_X12_near_94 {p : Program} {l : Launch} {e : Env} {s : State} {m : MethodId} {args : Array Value} {below : List Frame} {meth : Method} {c : Code} {E : EF} (Z : ZT)    (C : cy p s m args meth c cX12_near (some .int) 8 RX12 wsX12_near E (zD Z) vwCl 24 (za Z) (tysM Z)) {res : Int32 × SG} {c41 : SG → Int32 → Int32 → Int32 → Int32 → Option (Int32 × SG)} {c83 : SG → Int32 → Int32 → Int32 → Int32 → Int32 → Option (Int32 × SG)} (hc41 : ∀ (σ : SG) (l1 : Int32) (l2 : Int32) (l3 : Int32) (l4 : Int32) , c41 σ l1 l2 l3 l4 = some res → ∀ (H : Heap) (locs : List Loc), ws_P (zD Z) vwCl 24 (za Z) (tM Z) σ H → va_S (ws_A 24 (za Z)) s.heap H locs → ∀ (ls : Array Slot), lv_has ls 8 [(0, .ref (za Z 0)), (1, .int l1), (2, .int l2), (3, .int l3), (4, .int l4)] → W p l e rm_X12_near s m args below meth c H locs 0 0 (MQ below (xQi E (zD Z) vwCl 24 (za Z) (tM Z) (tysM Z) res) args s 0 0 (ws_A 24 (za Z))) (F0 m 41 ls [])) (hc83 : ∀ (σ : SG) (l1 : Int32) (l2 : Int32) (l3 : Int32) (l4 : Int32) (l5 : Int32) , c83 σ l1 l2 l3 l4 l5 = some res → ∀ (H : Heap) (locs : List Loc), ws_P (zD Z) vwCl 24 (za Z) (tM Z) σ H → va_S (ws_A 24 (za Z)) s.heap H locs → ∀ (ls : Array Slot), lv_has ls 8 [(0, .ref (za Z 0)), (1, .int l1), (2, .int l2), (3, .int l3), (4, .int l4), (5, .int l5)] → W p l e rm_X12_near s m args below meth c H locs 0 0 (MQ below (xQi E (zD Z) vwCl 24 (za Z) (tM Z) (tysM Z) res) args s 0 0 (ws_A 24 (za Z))) (F0 m 83 ls [])) : ∀ (n : Nat) (σ : SG) (l1 : Int32) (l2 : Int32) (l3 : Int32) (l4 : Int32) (l5 : Int32) (l6 : Int32) , m_X12_near_94   c41 c83 n σ l1 l2 l3 l4 l5 l6 = some res → ∀ (H : Heap) (locs : List Loc), ws_P (zD Z) vwCl 24 (za Z) (tM Z) σ H → va_S (ws_A 24 (za Z)) s.heap H locs → ∀ (ls : Array Slot), lv_has ls 8 [(0, .ref (za Z 0)), (1, .int l1), (2, .int l2), (3, .int l3), (4, .int l4), (5, .int l5), (6, .int l6)] → W p l e rm_X12_near s m args below meth c H locs 0 0 (MQ below (xQi E (zD Z) vwCl 24 (za Z) (tM Z) (tysM Z) res) args s 0 0 (ws_A 24 (za Z))) (F0 m 94 ls []) := by
  have C0 := C
  obtain ⟨hx, hb, hr, hlocks, hml, hown, hts, hE, hJ, hK⟩ := C0
  intro n
  induction n with
  | zero =>
    intro σ l1 l2 l3 l4 l5 l6  h
    cases h
  | succ n ih =>
    intro σ l1 l2 l3 l4 l5 l6  h H locs hP hS ls hl
    have hc94 : ∀ (σ : SG) (l1 : Int32) (l2 : Int32) (l3 : Int32) (l4 : Int32) (l5 : Int32) (l6 : Int32) , m_X12_near_94   c41 c83 n σ l1 l2 l3 l4 l5 l6 = some res → ∀ (H : Heap) (locs : List Loc), ws_P (zD Z) vwCl 24 (za Z) (tM Z) σ H → va_S (ws_A 24 (za Z)) s.heap H locs → ∀ (ls : Array Slot), lv_has ls 8 [(0, .ref (za Z 0)), (1, .int l1), (2, .int l2), (3, .int l3), (4, .int l4), (5, .int l5), (6, .int l6)] → W p l e rm_X12_near s m args below meth c H locs 0 0 (MQ below (xQi E (zD Z) vwCl 24 (za Z) (tM Z) (tysM Z) res) args s 0 0 (ws_A 24 (za Z))) (F0 m 94 ls []) := ih
    have h : m_X12_near_94_s   c41 c83 (m_X12_near_94   c41 c83 n) σ l1 l2 l3 l4 l5 l6 = some res := h
    unfold m_X12_near_94_s at h
    refine lv_iload hx hb dX12_near_94 (lv_at hl 6 rfl) ?_
    refine lv_iload hx hb dX12_near_96 (lv_at hl 5 rfl) ?_
    refine lv_icmp_gt (tgt := 211) hx hb dX12_near_98 (by decide) (fun q32 => ?_) (fun q32 => ?_)
    · have h := if_p h q32
      obtain ⟨v33, e34, h⟩ := lS_e h
      refine lv_iinc (v := v33) (lv' := [(5, .int v33), (0, .ref (za Z 0)), (1, .int l1), (2, .int l2), (3, .int l3), (4, .int l4), (6, .int l6)]) hx hb dX12_near_211 hl (k := 5) rfl (by rw [e34]; rfl) (by decide) rfl (fun ls hl => ?_)
      refine lv_goto (tgt := 83) hx hb dX12_near_214 (by decide) ?_
      exact hc83 σ l1 l2 l3 l4 v33 h H locs hP hS ls (lv_sub hl [1, 2, 3, 4, 5, 0] rfl)
    · have h := if_n h q32
      refine lv_aload_n hx hb dX12_near_101 rfl (lv_at hl 0 rfl) ?_
      refine lv_iload hx hb dX12_near_102 (lv_at hl 4 rfl) ?_
      refine lv_iload hx hb dX12_near_104 (lv_at hl 6 rfl) ?_
      obtain ⟨v35, σ36, hm37, h⟩ := bi_e h
      refine xr_callv (res := (v35, σ36)) (va_runV (As := [.int l4, .int l6]) (rest := []) ⟨hx, hb, hml, hown, hts⟩ (k_X12_reachEnds l Z   σ l4 l6 hm37) (cwV 2 hts gX12_near_X12_reachEnds rfl rfl rfl (by decide +kernel) ⟨Nat.le_of_ble_eq_true rfl, Nat.le_of_ble_eq_true rfl⟩) ⟨wx_blind, wr_recv hK hP (k := 0) (by decide) ((tM_0 Z) _ _ _) rfl, fun U hU hW => ⟨rfl, wx_at hE hJ hP hK hS hU hW⟩⟩ rfl rfl hl.1 rfl (lv_room (Nat.le_of_ble_eq_true rfl)) dX12_near_106 ⟨Nat.le_of_ble_eq_true rfl, Nat.le_of_ble_eq_true rfl⟩) hS (fun H locs hP hS => ?_)
      have hP : ws_P (zD Z) vwCl 24 (za Z) (tM Z) σ36 H := hP
      refine lv_iconst (v := 0) hx hb dX12_near_109 (by decide) ?_
      refine lv_istore (lv' := [(7, .int 0), (0, .ref (za Z 0)), (1, .int l1), (2, .int l2), (3, .int l3), (4, .int l4), (5, .int l5), (6, .int l6)]) hx hb dX12_near_110 hl (by decide) rfl (fun ls hl => ?_)
      exact kb_X12_near_112 Z    C  hc41 hc83 hc94 FV σ36 l1 l2 l3 l4 l5 l6 0 h H locs hP hS ls (lv_sub hl [1, 2, 3, 4, 5, 6, 7, 0] rfl)
def m_X12_near_83_s   (c41 : SG → Int32 → Int32 → Int32 → Int32 → Option (Int32 × SG)) (c83 : SG → Int32 → Int32 → Int32 → Int32 → Int32 → Option (Int32 × SG)) (σ : SG) (l1 : Int32) (l2 : Int32) (l3 : Int32) (l4 : Int32) (l5 : Int32) : Option (Int32 × SG) :=
  if l2 < l5 then (m_X12_near_220   c41 FV σ l1 l2 l3 l4 0) else (m_X12_near_94   c41 c83 FV σ l1 l2 l3 l4 l5 (-l5))
def m_X12_near_83   (c41 : SG → Int32 → Int32 → Int32 → Int32 → Option (Int32 × SG)) : Nat → SG → Int32 → Int32 → Int32 → Int32 → Int32 → Option (Int32 × SG)
  | 0, _, _, _, _, _, _ => none
  | n + 1, σ, l1, l2, l3, l4, l5 => m_X12_near_83_s   c41 (m_X12_near_83   c41 n) σ l1 l2 l3 l4 l5
set_option maxHeartbeats 4000000 in
set_option maxRecDepth 100000 in
theorem kb_X12_near_83 {p : Program} {l : Launch} {e : Env} {s : State} {m : MethodId} {args : Array Value} {below : List Frame} {meth : Method} {c : Code} {E : EF} (Z : ZT)    (C : cy p s m args meth c cX12_near (some .int) 8 RX12 wsX12_near E (zD Z) vwCl 24 (za Z) (tysM Z)) {res : Int32 × SG} {c41 : SG → Int32 → Int32 → Int32 → Int32 → Option (Int32 × SG)} (hc41 : ∀ (σ : SG) (l1 : Int32) (l2 : Int32) (l3 : Int32) (l4 : Int32) , c41 σ l1 l2 l3 l4 = some res → ∀ (H : Heap) (locs : List Loc), ws_P (zD Z) vwCl 24 (za Z) (tM Z) σ H → va_S (ws_A 24 (za Z)) s.heap H locs → ∀ (ls : Array Slot), lv_has ls 8 [(0, .ref (za Z 0)), (1, .int l1), (2, .int l2), (3, .int l3), (4, .int l4)] → W p l e rm_X12_near s m args below meth c H locs 0 0 (MQ below (xQi E (zD Z) vwCl 24 (za Z) (tM Z) (tysM Z) res) args s 0 0 (ws_A 24 (za Z))) (F0 m 41 ls [])) : ∀ (n : Nat) (σ : SG) (l1 : Int32) (l2 : Int32) (l3 : Int32) (l4 : Int32) (l5 : Int32) , m_X12_near_83   c41 n σ l1 l2 l3 l4 l5 = some res → ∀ (H : Heap) (locs : List Loc), ws_P (zD Z) vwCl 24 (za Z) (tM Z) σ H → va_S (ws_A 24 (za Z)) s.heap H locs → ∀ (ls : Array Slot), lv_has ls 8 [(0, .ref (za Z 0)), (1, .int l1), (2, .int l2), (3, .int l3), (4, .int l4), (5, .int l5)] → W p l e rm_X12_near s m args below meth c H locs 0 0 (MQ below (xQi E (zD Z) vwCl 24 (za Z) (tM Z) (tysM Z) res) args s 0 0 (ws_A 24 (za Z))) (F0 m 83 ls []) := by
  have C0 := C
  obtain ⟨hx, hb, hr, hlocks, hml, hown, hts, hE, hJ, hK⟩ := C0
  intro n
  induction n with
  | zero =>
    intro σ l1 l2 l3 l4 l5  h
    cases h
  | succ n ih =>
    intro σ l1 l2 l3 l4 l5  h H locs hP hS ls hl
    have hc83 : ∀ (σ : SG) (l1 : Int32) (l2 : Int32) (l3 : Int32) (l4 : Int32) (l5 : Int32) , m_X12_near_83   c41 n σ l1 l2 l3 l4 l5 = some res → ∀ (H : Heap) (locs : List Loc), ws_P (zD Z) vwCl 24 (za Z) (tM Z) σ H → va_S (ws_A 24 (za Z)) s.heap H locs → ∀ (ls : Array Slot), lv_has ls 8 [(0, .ref (za Z 0)), (1, .int l1), (2, .int l2), (3, .int l3), (4, .int l4), (5, .int l5)] → W p l e rm_X12_near s m args below meth c H locs 0 0 (MQ below (xQi E (zD Z) vwCl 24 (za Z) (tM Z) (tysM Z) res) args s 0 0 (ws_A 24 (za Z))) (F0 m 83 ls []) := ih
    have h : m_X12_near_83_s   c41 (m_X12_near_83   c41 n) σ l1 l2 l3 l4 l5 = some res := h
    unfold m_X12_near_83_s at h
    refine lv_iload hx hb dX12_near_83 (lv_at hl 5 rfl) ?_
    refine lv_iload_n hx hb dX12_near_85 rfl (lv_at hl 2 rfl) ?_
    refine lv_icmp_gt (tgt := 217) hx hb dX12_near_86 (by decide) (fun q19 => ?_) (fun q19 => ?_)
    · have h := if_p h q19
      refine lv_iconst (v := 0) hx hb dX12_near_217 (by decide) ?_
      refine lv_istore (lv' := [(5, .int 0), (0, .ref (za Z 0)), (1, .int l1), (2, .int l2), (3, .int l3), (4, .int l4)]) hx hb dX12_near_218 hl (by decide) rfl (fun ls hl => ?_)
      exact kb_X12_near_220 Z    C  hc41 FV σ l1 l2 l3 l4 0 h H locs hP hS ls (lv_sub hl [1, 2, 3, 4, 5, 0] rfl)
    · have h := if_n h q19
      refine lv_iload hx hb dX12_near_89 (lv_at hl 5 rfl) ?_
      refine lv_ineg hx hb dX12_near_91 ?_
      refine lv_istore (lv' := [(6, .int (-l5)), (0, .ref (za Z 0)), (1, .int l1), (2, .int l2), (3, .int l3), (4, .int l4), (5, .int l5)]) hx hb dX12_near_92 hl (by decide) rfl (fun ls hl => ?_)
      exact kb_X12_near_94 Z    C  hc41 hc83 FV σ l1 l2 l3 l4 l5 (-l5) h H locs hP hS ls (lv_sub hl [1, 2, 3, 4, 5, 6, 0] rfl)
def m_X12_near_53_s   (c41 : SG → Int32 → Int32 → Int32 → Int32 → Option (Int32 × SG)) (c53 : SG → Int32 → Int32 → Int32 → Int32 → Int32 → Option (Int32 × SG)) (σ : SG) (l1 : Int32) (l2 : Int32) (l3 : Int32) (l4 : Int32) (l5 : Int32) : Option (Int32 × SG) :=
  gB (inB l4 9) (if (σ.1 3 l4.toNatClampNeg) < l5 then (m_X12_near_83   c41 FV σ l1 l2 l3 l4 0) else (gB (inB l5 25) (lS (sI σ 14 l5.toNatClampNeg 2147483647) (fun σ15 => lS (l5 + 1) (fun v17 => c53 σ15 l1 l2 l3 l4 v17)))))
def m_X12_near_53   (c41 : SG → Int32 → Int32 → Int32 → Int32 → Option (Int32 × SG)) : Nat → SG → Int32 → Int32 → Int32 → Int32 → Int32 → Option (Int32 × SG)
  | 0, _, _, _, _, _, _ => none
  | n + 1, σ, l1, l2, l3, l4, l5 => m_X12_near_53_s   c41 (m_X12_near_53   c41 n) σ l1 l2 l3 l4 l5
set_option maxHeartbeats 4000000 in
set_option maxRecDepth 100000 in
theorem kb_X12_near_53 {p : Program} {l : Launch} {e : Env} {s : State} {m : MethodId} {args : Array Value} {below : List Frame} {meth : Method} {c : Code} {E : EF} (Z : ZT)    (C : cy p s m args meth c cX12_near (some .int) 8 RX12 wsX12_near E (zD Z) vwCl 24 (za Z) (tysM Z)) {res : Int32 × SG} {c41 : SG → Int32 → Int32 → Int32 → Int32 → Option (Int32 × SG)} (hc41 : ∀ (σ : SG) (l1 : Int32) (l2 : Int32) (l3 : Int32) (l4 : Int32) , c41 σ l1 l2 l3 l4 = some res → ∀ (H : Heap) (locs : List Loc), ws_P (zD Z) vwCl 24 (za Z) (tM Z) σ H → va_S (ws_A 24 (za Z)) s.heap H locs → ∀ (ls : Array Slot), lv_has ls 8 [(0, .ref (za Z 0)), (1, .int l1), (2, .int l2), (3, .int l3), (4, .int l4)] → W p l e rm_X12_near s m args below meth c H locs 0 0 (MQ below (xQi E (zD Z) vwCl 24 (za Z) (tM Z) (tysM Z) res) args s 0 0 (ws_A 24 (za Z))) (F0 m 41 ls [])) : ∀ (n : Nat) (σ : SG) (l1 : Int32) (l2 : Int32) (l3 : Int32) (l4 : Int32) (l5 : Int32) , m_X12_near_53   c41 n σ l1 l2 l3 l4 l5 = some res → ∀ (H : Heap) (locs : List Loc), ws_P (zD Z) vwCl 24 (za Z) (tM Z) σ H → va_S (ws_A 24 (za Z)) s.heap H locs → ∀ (ls : Array Slot), lv_has ls 8 [(0, .ref (za Z 0)), (1, .int l1), (2, .int l2), (3, .int l3), (4, .int l4), (5, .int l5)] → W p l e rm_X12_near s m args below meth c H locs 0 0 (MQ below (xQi E (zD Z) vwCl 24 (za Z) (tM Z) (tysM Z) res) args s 0 0 (ws_A 24 (za Z))) (F0 m 53 ls []) := by
  have C0 := C
  obtain ⟨hx, hb, hr, hlocks, hml, hown, hts, hE, hJ, hK⟩ := C0
  intro n
  induction n with
  | zero =>
    intro σ l1 l2 l3 l4 l5  h
    cases h
  | succ n ih =>
    intro σ l1 l2 l3 l4 l5  h H locs hP hS ls hl
    have hc53 : ∀ (σ : SG) (l1 : Int32) (l2 : Int32) (l3 : Int32) (l4 : Int32) (l5 : Int32) , m_X12_near_53   c41 n σ l1 l2 l3 l4 l5 = some res → ∀ (H : Heap) (locs : List Loc), ws_P (zD Z) vwCl 24 (za Z) (tM Z) σ H → va_S (ws_A 24 (za Z)) s.heap H locs → ∀ (ls : Array Slot), lv_has ls 8 [(0, .ref (za Z 0)), (1, .int l1), (2, .int l2), (3, .int l3), (4, .int l4), (5, .int l5)] → W p l e rm_X12_near s m args below meth c H locs 0 0 (MQ below (xQi E (zD Z) vwCl 24 (za Z) (tM Z) (tysM Z) res) args s 0 0 (ws_A 24 (za Z))) (F0 m 53 ls []) := ih
    have h : m_X12_near_53_s   c41 (m_X12_near_53   c41 n) σ l1 l2 l3 l4 l5 = some res := h
    unfold m_X12_near_53_s at h
    refine lv_iload hx hb dX12_near_53 (lv_at hl 5 rfl) ?_
    refine lv_aload_n hx hb dX12_near_55 rfl (lv_at hl 0 rfl) ?_
    refine wr_get (C := RX12) (T := TX12) (N := 41) hx hb hts (in_X12_near_X12) hown hK hP (k := 0) (by decide) ((tM_0 Z) _ _ _) rfl 3 (by decide) (hts (.fieldLink RX12 18 "TuneSearchModel" "size" "[I") (by decide +kernel)) (fun _ h9 => h9) rfl dX12_near_56 ?_
    refine lv_iload hx hb dX12_near_59 (lv_at hl 4 rfl) ?_
    obtain ⟨b12, h⟩ := gB_e h
    refine wr_iald hx hb hK hP (k := 3) (by decide) 0 ((tM_3 Z) _ _ _) rfl b12 dX12_near_61 ?_
    refine lv_icmp_gt (tgt := 80) hx hb dX12_near_62 (by decide) (fun q13 => ?_) (fun q13 => ?_)
    · have h := if_p h q13
      refine lv_iconst (v := 0) hx hb dX12_near_80 (by decide) ?_
      refine lv_istore (lv' := [(5, .int 0), (0, .ref (za Z 0)), (1, .int l1), (2, .int l2), (3, .int l3), (4, .int l4)]) hx hb dX12_near_81 hl (by decide) rfl (fun ls hl => ?_)
      exact kb_X12_near_83 Z    C  hc41 FV σ l1 l2 l3 l4 0 h H locs hP hS ls (lv_sub hl [1, 2, 3, 4, 5, 0] rfl)
    · have h := if_n h q13
      refine lv_aload_n hx hb dX12_near_65 rfl (lv_at hl 0 rfl) ?_
      refine wr_get (C := RX12) (T := TX12) (N := 41) hx hb hts (in_X12_near_X12) hown hK hP (k := 0) (by decide) ((tM_0 Z) _ _ _) rfl 29 (by decide) (hts (.fieldLink RX12 56 "TuneSearchModel" "endCost" "[I") (by decide +kernel)) (fun _ h9 => h9) rfl dX12_near_66 ?_
      refine lv_iload hx hb dX12_near_69 (lv_at hl 5 rfl) ?_
      refine lv_ldc (v := 2147483647) hx hb hown (hts (.constant RX12 225 2147483647) (by decide +kernel)) dX12_near_71 ?_
      obtain ⟨b14, h⟩ := gB_e h
      refine wr_iast hx hb hK hP hJ hS (k := 14) (by decide) 0 (tM_14 Z) rfl b14 dX12_near_73 (fun H locs hP hS => ?_)
      obtain ⟨σ15, e16, h⟩ := lS_e h
      rw [← e16] at hP
      obtain ⟨v17, e18, h⟩ := lS_e h
      refine lv_iinc (v := v17) (lv' := [(5, .int v17), (0, .ref (za Z 0)), (1, .int l1), (2, .int l2), (3, .int l3), (4, .int l4)]) hx hb dX12_near_74 hl (k := 5) rfl (by rw [e18]; rfl) (by decide) rfl (fun ls hl => ?_)
      refine lv_goto (tgt := 53) hx hb dX12_near_77 (by decide) ?_
      exact hc53 σ15 l1 l2 l3 l4 v17 h H locs hP hS ls (lv_sub hl [1, 2, 3, 4, 5, 0] rfl)
def m_X12_near_41_s    (c41 : SG → Int32 → Int32 → Int32 → Int32 → Option (Int32 × SG)) (σ : SG) (l1 : Int32) (l2 : Int32) (l3 : Int32) (l4 : Int32) : Option (Int32 × SG) :=
  if (σ.1 0 4) ≤ l4 then (some (σ.1 0 25, σ)) else (m_X12_near_53   c41 FV σ l1 l2 l3 l4 0)
def m_X12_near_41    : Nat → SG → Int32 → Int32 → Int32 → Int32 → Option (Int32 × SG)
  | 0, _, _, _, _, _ => none
  | n + 1, σ, l1, l2, l3, l4 => m_X12_near_41_s    (m_X12_near_41    n) σ l1 l2 l3 l4
set_option maxHeartbeats 4000000 in
set_option maxRecDepth 100000 in
theorem kb_X12_near_41 {p : Program} {l : Launch} {e : Env} {s : State} {m : MethodId} {args : Array Value} {below : List Frame} {meth : Method} {c : Code} {E : EF} (Z : ZT)    (C : cy p s m args meth c cX12_near (some .int) 8 RX12 wsX12_near E (zD Z) vwCl 24 (za Z) (tysM Z)) {res : Int32 × SG}   : ∀ (n : Nat) (σ : SG) (l1 : Int32) (l2 : Int32) (l3 : Int32) (l4 : Int32) , m_X12_near_41    n σ l1 l2 l3 l4 = some res → ∀ (H : Heap) (locs : List Loc), ws_P (zD Z) vwCl 24 (za Z) (tM Z) σ H → va_S (ws_A 24 (za Z)) s.heap H locs → ∀ (ls : Array Slot), lv_has ls 8 [(0, .ref (za Z 0)), (1, .int l1), (2, .int l2), (3, .int l3), (4, .int l4)] → W p l e rm_X12_near s m args below meth c H locs 0 0 (MQ below (xQi E (zD Z) vwCl 24 (za Z) (tM Z) (tysM Z) res) args s 0 0 (ws_A 24 (za Z))) (F0 m 41 ls []) := by
  have C0 := C
  obtain ⟨hx, hb, hr, hlocks, hml, hown, hts, hE, hJ, hK⟩ := C0
  intro n
  induction n with
  | zero =>
    intro σ l1 l2 l3 l4  h
    cases h
  | succ n ih =>
    intro σ l1 l2 l3 l4  h H locs hP hS ls hl
    have hc41 : ∀ (σ : SG) (l1 : Int32) (l2 : Int32) (l3 : Int32) (l4 : Int32) , m_X12_near_41    n σ l1 l2 l3 l4 = some res → ∀ (H : Heap) (locs : List Loc), ws_P (zD Z) vwCl 24 (za Z) (tM Z) σ H → va_S (ws_A 24 (za Z)) s.heap H locs → ∀ (ls : Array Slot), lv_has ls 8 [(0, .ref (za Z 0)), (1, .int l1), (2, .int l2), (3, .int l3), (4, .int l4)] → W p l e rm_X12_near s m args below meth c H locs 0 0 (MQ below (xQi E (zD Z) vwCl 24 (za Z) (tM Z) (tysM Z) res) args s 0 0 (ws_A 24 (za Z))) (F0 m 41 ls []) := ih
    have h : m_X12_near_41_s    (m_X12_near_41    n) σ l1 l2 l3 l4 = some res := h
    unfold m_X12_near_41_s at h
    refine lv_iload hx hb dX12_near_41 (lv_at hl 4 rfl) ?_
    refine lv_aload_n hx hb dX12_near_43 rfl (lv_at hl 0 rfl) ?_
    refine wr_get (C := RX12) (T := TX12) (N := 41) hx hb hts (in_X12_near_X12) hown hK hP (k := 0) (by decide) ((tM_0 Z) _ _ _) rfl 4 (by decide) (hts (.fieldLink RX12 90 "TuneSearchModel" "tunes" "I") (by decide +kernel)) (fun _ h9 => h9) rfl dX12_near_44 ?_
    refine lv_icmp_ge (tgt := 284) hx hb dX12_near_47 (by decide) (fun q11 => ?_) (fun q11 => ?_)
    · have h := if_p h q11
      refine lv_aload_n hx hb dX12_near_284 rfl (lv_at hl 0 rfl) ?_
      refine wr_get (C := RX12) (T := TX12) (N := 41) hx hb hts (in_X12_near_X12) hown hK hP (k := 0) (by decide) ((tM_0 Z) _ _ _) rfl 25 (by decide) (hts (.fieldLink RX12 204 "TuneSearchModel" "foundCount" "I") (by decide +kernel)) (fun _ h9 => h9) rfl dX12_near_285 ?_
      exact xr_iret hx hb hr hlocks hE hJ hK hP hS h dX12_near_288
    · have h := if_n h q11
      refine lv_iconst (v := 0) hx hb dX12_near_50 (by decide) ?_
      refine lv_istore (lv' := [(5, .int 0), (0, .ref (za Z 0)), (1, .int l1), (2, .int l2), (3, .int l3), (4, .int l4)]) hx hb dX12_near_51 hl (by decide) rfl (fun ls hl => ?_)
      exact kb_X12_near_53 Z    C  hc41 FV σ l1 l2 l3 l4 0 h H locs hP hS ls (lv_sub hl [1, 2, 3, 4, 5, 0] rfl)
def m_X12_near_0    (σ : SG) (p0 : Int32) (p1 : Int32) : Option (Int32 × SG) :=
  lS (sI σ 0 0 0) (fun σ1 => if p0 < 0 then (some ((-2), σ1)) else (if p1 < 0 then (some ((-2), σ1)) else (if p1 ≤ 24 then (lS (sI σ1 0 25 0) (fun σ6 => gB (inB 8 9) (lS (25 * (σ6.1 3 (8 : Int32).toNatClampNeg)) (fun v9 => m_X12_near_41    FV σ6 p0 p1 v9 0)))) else (some ((-2), σ1)))))
set_option maxHeartbeats 4000000 in
set_option maxRecDepth 100000 in
theorem kb_X12_near_0 {p : Program} {l : Launch} {e : Env} {s : State} {m : MethodId} {args : Array Value} {below : List Frame} {meth : Method} {c : Code} {E : EF} (Z : ZT)    (C : cy p s m args meth c cX12_near (some .int) 8 RX12 wsX12_near E (zD Z) vwCl 24 (za Z) (tysM Z)) {res : Int32 × SG}   : ∀ (σ : SG) (p0 : Int32) (p1 : Int32) , m_X12_near_0    σ p0 p1 = some res → ∀ (H : Heap) (locs : List Loc), ws_P (zD Z) vwCl 24 (za Z) (tM Z) σ H → va_S (ws_A 24 (za Z)) s.heap H locs → ∀ (ls : Array Slot), lv_has ls 8 [(0, .ref (za Z 0)), (1, .int p0), (2, .int p1)] → W p l e rm_X12_near s m args below meth c H locs 0 0 (MQ below (xQi E (zD Z) vwCl 24 (za Z) (tM Z) (tysM Z) res) args s 0 0 (ws_A 24 (za Z))) (F0 m 0 ls []) := by
  have C0 := C
  obtain ⟨hx, hb, hr, hlocks, hml, hown, hts, hE, hJ, hK⟩ := C0
  intro σ p0 p1  h H locs hP hS ls hl
  unfold m_X12_near_0 at h
  refine lv_aload_n hx hb dX12_near_0 rfl (lv_at hl 0 rfl) ?_
  refine lv_iconst (v := 0) hx hb dX12_near_1 (by decide) ?_
  refine wr_put (C := RX12) (T := TX12) (N := 41) (σ' := sI σ 0 0 0) (ty := .int) hx hb hts (in_X12_near_X12) tyX12 tyX12_ok nmX12 hown hK hP hJ hS (k := 0) (by decide) ((tM_0 Z) _ _ _) rfl 0 (by decide) (hts (.fieldLink RX12 87 "TuneSearchModel" "code" "I") (by decide +kernel)) (fun _ h9 => h9) rfl (by decide +kernel) rfl rfl (Nat.le_of_ble_eq_true rfl) (ws_pI (tM_0 Z) rfl) dX12_near_2 (fun H locs hP hS => ?_)
  obtain ⟨σ1, e2, h⟩ := lS_e h
  rw [← e2] at hP
  refine lv_iload_n hx hb dX12_near_5 rfl (lv_at hl 1 rfl) ?_
  refine lv_if_lt (tgt := 19) hx hb dX12_near_6 (by decide) (fun q3 => ?_) (fun q3 => ?_)
  · have h := if_p h q3
    refine lv_bipush (v := (-2)) hx hb dX12_near_19 (by decide) ?_
    exact xr_iret hx hb hr hlocks hE hJ hK hP hS h dX12_near_21
  · have h := if_n h q3
    refine lv_iload_n hx hb dX12_near_9 rfl (lv_at hl 2 rfl) ?_
    refine lv_if_lt (tgt := 19) hx hb dX12_near_10 (by decide) (fun q4 => ?_) (fun q4 => ?_)
    · have h := if_p h q4
      refine lv_bipush (v := (-2)) hx hb dX12_near_19 (by decide) ?_
      exact xr_iret hx hb hr hlocks hE hJ hK hP hS h dX12_near_21
    · have h := if_n h q4
      refine lv_iload_n hx hb dX12_near_13 rfl (lv_at hl 2 rfl) ?_
      refine lv_bipush (v := 24) hx hb dX12_near_14 (by decide) ?_
      refine lv_icmp_le (tgt := 22) hx hb dX12_near_16 (by decide) (fun q5 => ?_) (fun q5 => ?_)
      · have h := if_p h q5
        refine lv_aload_n hx hb dX12_near_22 rfl (lv_at hl 0 rfl) ?_
        refine lv_iconst (v := 0) hx hb dX12_near_23 (by decide) ?_
        refine wr_put (C := RX12) (T := TX12) (N := 41) (σ' := sI σ1 0 25 0) (ty := .int) hx hb hts (in_X12_near_X12) tyX12 tyX12_ok nmX12 hown hK hP hJ hS (k := 0) (by decide) ((tM_0 Z) _ _ _) rfl 25 (by decide) (hts (.fieldLink RX12 204 "TuneSearchModel" "foundCount" "I") (by decide +kernel)) (fun _ h9 => h9) rfl (by decide +kernel) rfl rfl (Nat.le_of_ble_eq_true rfl) (ws_pI (tM_0 Z) rfl) dX12_near_24 (fun H locs hP hS => ?_)
        obtain ⟨σ6, e7, h⟩ := lS_e h
        rw [← e7] at hP
        refine lv_bipush (v := 25) hx hb dX12_near_27 (by decide) ?_
        refine lv_aload_n hx hb dX12_near_29 rfl (lv_at hl 0 rfl) ?_
        refine wr_get (C := RX12) (T := TX12) (N := 41) hx hb hts (in_X12_near_X12) hown hK hP (k := 0) (by decide) ((tM_0 Z) _ _ _) rfl 3 (by decide) (hts (.fieldLink RX12 18 "TuneSearchModel" "size" "[I") (by decide +kernel)) (fun _ h9 => h9) rfl dX12_near_30 ?_
        refine lv_bipush (v := 8) hx hb dX12_near_33 (by decide) ?_
        obtain ⟨b8, h⟩ := gB_e h
        refine wr_iald hx hb hK hP (k := 3) (by decide) 0 ((tM_3 Z) _ _ _) rfl b8 dX12_near_35 ?_
        refine lv_imul hx hb dX12_near_36 ?_
        refine lv_topi (fun v9 e10 => ?_)
        have h := lS_u h e10
        refine lv_istore_n (lv' := [(3, .int v9), (0, .ref (za Z 0)), (1, .int p0), (2, .int p1)]) hx hb dX12_near_37 rfl hl (by decide) rfl (fun ls hl => ?_)
        refine lv_iconst (v := 0) hx hb dX12_near_38 (by decide) ?_
        refine lv_istore (lv' := [(4, .int 0), (3, .int v9), (0, .ref (za Z 0)), (1, .int p0), (2, .int p1)]) hx hb dX12_near_39 hl (by decide) rfl (fun ls hl => ?_)
        exact kb_X12_near_41 Z    C   FV σ6 p0 p1 v9 0 h H locs hP hS ls (lv_sub hl [2, 3, 4, 1, 0] rfl)
      · have h := if_n h q5
        refine lv_bipush (v := (-2)) hx hb dX12_near_19 (by decide) ?_
        exact xr_iret hx hb hr hlocks hE hJ hK hP hS h dX12_near_21
def m_X12_near   (σ : SG) (p0 : Int32) (p1 : Int32) : Option (Int32 × SG) := m_X12_near_0   σ p0 p1
set_option maxHeartbeats 4000000 in
set_option maxRecDepth 100000 in
theorem k_X12_near (l : Launch) {E : EF} (Z : ZT)    (σ : SG) (p0 : Int32) (p1 : Int32) {res : Int32 × SG} (h : m_X12_near   σ p0 p1 = some res) : Met l yX12_near wsX12_near rm_X12_near (va_Pc [.ref (za Z 0), .int p0, .int p1] (wx E (zD Z) vwCl 24 (za Z) (tM Z) (tysM Z) σ)) (xQi E (zD Z) vwCl 24 (za Z) (tM Z) (tysM Z) res) 0 0 (ws_A 24 (za Z)) := by
  refine Met.ofW (cc := cX12_near) (maxL := 8) (ret := (some .int)) (by decide) rfl ?_
  intro p e s m args below meth c s₁ B hml hv
  obtain ⟨rfl, hE, hJ, hP, hK⟩ := hv
  have hl := lv_entry ([.ref (za Z 0), .int p0, .int p1]) (n := 8) (Nat.le_of_ble_eq_true rfl)
  rw [lg_entry_eq]
  generalize (lg_sl ([.ref (za Z 0), .int p0, .int p1]) ++ List.replicate (8 - (lg_sl ([.ref (za Z 0), .int p0, .int p1])).length) Slot.unset).toArray = ls at hl ⊢
  exact kb_X12_near_0 Z    ⟨B.exec, B.bytes, B.returns, B.notSynchronized, hml, findClass_of_methodNamed B.named, atoms_spec (ws := wsX12_near) B.pre, hE, hJ, hK⟩ σ p0 p1 h s.heap [] hP va_S.rf ls hl
