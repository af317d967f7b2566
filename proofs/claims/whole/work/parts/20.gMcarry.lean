/-! TuneSearchModel.unitsOf(I)I -/
abbrev rm_X12_unitsOf : Room := { frames := 0, cells := 0, slots := 0, locals := 0 }
theorem in_X12_unitsOf_X12 : ∀ w ∈ wsX120, w ∈ wsX12_unitsOf := by decide +kernel
def m_X12_unitsOf_44   (c4 : SG → Int32 → Int32 → Int32 → Option (Int32 × SG)) (σ : SG) (l1 : Int32) (l3 : Int32) (s0 : Int32) (s1 : Int32) : Option (Int32 × SG) :=
  lS (s1 + s0) (fun v6 => lS (l3 + 1) (fun v8 => c4 σ l1 v6 v8))
set_option maxHeartbeats 4000000 in
set_option maxRecDepth 100000 in
theorem kb_X12_unitsOf_44 {p : Program} {l : Launch} {e : Env} {s : State} {m : MethodId} {args : Array Value} {below : List Frame} {meth : Method} {c : Code} {E : EF} (Z : ZT)    (C : cy p s m args meth c cX12_unitsOf (some .int) 4 RX12 wsX12_unitsOf E (zD Z) vwCl 24 (za Z) (tysM Z)) {res : Int32 × SG} {c4 : SG → Int32 → Int32 → Int32 → Option (Int32 × SG)} (hc4 : ∀ (σ : SG) (l1 : Int32) (l2 : Int32) (l3 : Int32) , c4 σ l1 l2 l3 = some res → ∀ (H : Heap) (locs : List Loc), ws_P (zD Z) vwCl 24 (za Z) (tM Z) σ H → va_S (ws_A 24 (za Z)) s.heap H locs → ∀ (ls : Array Slot), lv_has ls 4 [(0, .ref (za Z 0)), (1, .int l1), (2, .int l2), (3, .int l3)] → W p l e rm_X12_unitsOf s m args below meth c H locs 0 0 (MQ below (xQi E (zD Z) vwCl 24 (za Z) (tM Z) (tysM Z) res) args s 0 0 (ws_A 24 (za Z))) (F0 m 4 ls [])) : ∀ (σ : SG) (l1 : Int32) (l3 : Int32) (s0 : Int32) (s1 : Int32) , m_X12_unitsOf_44   c4 σ l1 l3 s0 s1 = some res → ∀ (H : Heap) (locs : List Loc), ws_P (zD Z) vwCl 24 (za Z) (tM Z) σ H → va_S (ws_A 24 (za Z)) s.heap H locs → ∀ (ls : Array Slot), lv_has ls 4 [(0, .ref (za Z 0)), (1, .int l1), (3, .int l3)] → W p l e rm_X12_unitsOf s m args below meth c H locs 0 0 (MQ below (xQi E (zD Z) vwCl 24 (za Z) (tM Z) (tysM Z) res) args s 0 0 (ws_A 24 (za Z))) (F0 m 44 ls [.int s0, .int s1]) := by
  have C0 := C
  obtain ⟨hx, hb, hr, hlocks, hml, hown, hts, hE, hJ, hK⟩ := C0
  intro σ l1 l3 s0 s1  h H locs hP hS ls hl
  unfold m_X12_unitsOf_44 at h
  refine lv_iadd hx hb dX12_unitsOf_44 ?_
  refine lv_topi (fun v6 e7 => ?_)
  have h := lS_u h e7
  refine lv_istore_n (lv' := [(2, .int v6), (0, .ref (za Z 0)), (1, .int l1), (3, .int l3)]) hx hb dX12_unitsOf_45 rfl hl (by decide) rfl (fun ls hl => ?_)
  obtain ⟨v8, e9, h⟩ := lS_e h
  refine lv_iinc (v := v8) (lv' := [(3, .int v8), (2, .int v6), (0, .ref (za Z 0)), (1, .int l1)]) hx hb dX12_unitsOf_46 hl (k := 3) rfl (by rw [e9]; rfl) (by decide) rfl (fun ls hl => ?_)
  refine lv_goto (tgt := 4) hx hb dX12_unitsOf_49 (by decide) ?_
  exact hc4 σ l1 v6 v8 h H locs hP hS ls (lv_sub hl [2, 3, 1, 0] rfl)
def m_X12_unitsOf_4_s    (c4 : SG → Int32 → Int32 → Int32 → Option (Int32 × SG)) (σ : SG) (l1 : Int32) (l2 : Int32) (l3 : Int32) : Option (Int32 × SG) :=
  gB (inB l1 9) (if (σ.1 3 l1.toNatClampNeg) ≤ l3 then (some (l2, σ)) else (gB (inB ((24 * l1) + l3) 216) (if 0 ≤ (σ.1 1 ((24 * l1) + l3).toNatClampNeg) then (gB (inB ((24 * l1) + l3) 216) (m_X12_unitsOf_44   c4 σ l1 l3 (σ.1 2 ((24 * l1) + l3).toNatClampNeg) l2)) else (m_X12_unitsOf_44   c4 σ l1 l3 0 l2))))
def m_X12_unitsOf_4    : Nat → SG → Int32 → Int32 → Int32 → Option (Int32 × SG)
  | 0, _, _, _, _ => none
  | n + 1, σ, l1, l2, l3 => m_X12_unitsOf_4_s    (m_X12_unitsOf_4    n) σ l1 l2 l3
set_option maxHeartbeats 4000000 in
set_option maxRecDepth 100000 in
theorem kb_X12_unitsOf_4 {p : Program} {l : Launch} {e : Env} {s : State} {m : MethodId} {args : Array Value} {below : List Frame} {meth : Method} {c : Code} {E : EF} (Z : ZT)    (C : cy p s m args meth c cX12_unitsOf (some .int) 4 RX12 wsX12_unitsOf E (zD Z) vwCl 24 (za Z) (tysM Z)) {res : Int32 × SG}   : ∀ (n : Nat) (σ : SG) (l1 : Int32) (l2 : Int32) (l3 : Int32) , m_X12_unitsOf_4    n σ l1 l2 l3 = some res → ∀ (H : Heap) (locs : List Loc), ws_P (zD Z) vwCl 24 (za Z) (tM Z) σ H → va_S (ws_A 24 (za Z)) s.heap H locs → ∀ (ls : Array Slot), lv_has ls 4 [(0, .ref (za Z 0)), (1, .int l1), (2, .int l2), (3, .int l3)] → W p l e rm_X12_unitsOf s m args below meth c H locs 0 0 (MQ below (xQi E (zD Z) vwCl 24 (za Z) (tM Z) (tysM Z) res) args s 0 0 (ws_A 24 (za Z))) (F0 m 4 ls []) := by
  have C0 := C
  obtain ⟨hx, hb, hr, hlocks, hml, hown, hts, hE, hJ, hK⟩ := C0
  intro n
  induction n with
  | zero =>
    intro σ l1 l2 l3  h
    cases h
  | succ n ih =>
    intro σ l1 l2 l3  h H locs hP hS ls hl
    have hc4 : ∀ (σ : SG) (l1 : Int32) (l2 : Int32) (l3 : Int32) , m_X12_unitsOf_4    n σ l1 l2 l3 = some res → ∀ (H : Heap) (locs : List Loc), ws_P (zD Z) vwCl 24 (za Z) (tM Z) σ H → va_S (ws_A 24 (za Z)) s.heap H locs → ∀ (ls : Array Slot), lv_has ls 4 [(0, .ref (za Z 0)), (1, .int l1), (2, .int l2), (3, .int l3)] → W p l e rm_X12_unitsOf s m args below meth c H locs 0 0 (MQ below (xQi E (zD Z) vwCl 24 (za Z) (tM Z) (tysM Z) res) args s 0 0 (ws_A 24 (za Z))) (F0 m 4 ls []) := ih
    have h : m_X12_unitsOf_4_s    (m_X12_unitsOf_4    n) σ l1 l2 l3 = some res := h
    unfold m_X12_unitsOf_4_s at h
    refine lv_iload_n hx hb dX12_unitsOf_4 rfl (lv_at hl 3 rfl) ?_
    refine lv_aload_n hx hb dX12_unitsOf_5 rfl (lv_at hl 0 rfl) ?_
    refine wr_get (C := RX12) (T := TX12) (N := 41) hx hb hts (in_X12_unitsOf_X12) hown hK hP (k := 0) (by decide) ((tM_0 Z) _ _ _) rfl 3 (by decide) (hts (.fieldLink RX12 18 "TuneSearchModel" "size" "[I") (by decide +kernel)) (fun _ h9 => h9) rfl dX12_unitsOf_6 ?_
    refine lv_iload_n hx hb dX12_unitsOf_9 rfl (lv_at hl 1 rfl) ?_
    obtain ⟨b1, h⟩ := gB_e h
    refine wr_iald hx hb hK hP (k := 3) (by decide) 0 ((tM_3 Z) _ _ _) rfl b1 dX12_unitsOf_10 ?_
    refine lv_icmp_ge (tgt := 52) hx hb dX12_unitsOf_11 (by decide) (fun q2 => ?_) (fun q2 => ?_)
    · have h := if_p h q2
      refine lv_iload_n hx hb dX12_unitsOf_52 rfl (lv_at hl 2 rfl) ?_
      exact xr_iret hx hb hr hlocks hE hJ hK hP hS h dX12_unitsOf_53
    · have h := if_n h q2
      refine lv_iload_n hx hb dX12_unitsOf_14 rfl (lv_at hl 2 rfl) ?_
      refine lv_aload_n hx hb dX12_unitsOf_15 rfl (lv_at hl 0 rfl) ?_
      refine wr_get (C := RX12) (T := TX12) (N := 41) hx hb hts (in_X12_unitsOf_X12) hown hK hP (k := 0) (by decide) ((tM_0 Z) _ _ _) rfl 1 (by decide) (hts (.fieldLink RX12 11 "TuneSearchModel" "pitch" "[I") (by decide +kernel)) (fun _ h9 => h9) rfl dX12_unitsOf_16 ?_
      refine lv_bipush (v := 24) hx hb dX12_unitsOf_19 (by decide) ?_
      refine lv_iload_n hx hb dX12_unitsOf_21 rfl (lv_at hl 1 rfl) ?_
      refine lv_imul hx hb dX12_unitsOf_22 ?_
      refine lv_iload_n hx hb dX12_unitsOf_23 rfl (lv_at hl 3 rfl) ?_
      refine lv_iadd hx hb dX12_unitsOf_24 ?_
      obtain ⟨b3, h⟩ := gB_e h
      refine wr_iald hx hb hK hP (k := 1) (by decide) 0 ((tM_1 Z) _ _ _) rfl b3 dX12_unitsOf_25 ?_
      refine lv_if_ge (tgt := 33) hx hb dX12_unitsOf_26 (by decide) (fun q4 => ?_) (fun q4 => ?_)
      · have h := if_p h q4
        refine lv_aload_n hx hb dX12_unitsOf_33 rfl (lv_at hl 0 rfl) ?_
        refine wr_get (C := RX12) (T := TX12) (N := 41) hx hb hts (in_X12_unitsOf_X12) hown hK hP (k := 0) (by decide) ((tM_0 Z) _ _ _) rfl 2 (by decide) (hts (.fieldLink RX12 15 "TuneSearchModel" "length" "[I") (by decide +kernel)) (fun _ h9 => h9) rfl dX12_unitsOf_34 ?_
        refine lv_bipush (v := 24) hx hb dX12_unitsOf_37 (by decide) ?_
        refine lv_iload_n hx hb dX12_unitsOf_39 rfl (lv_at hl 1 rfl) ?_
        refine lv_imul hx hb dX12_unitsOf_40 ?_
        refine lv_iload_n hx hb dX12_unitsOf_41 rfl (lv_at hl 3 rfl) ?_
        refine lv_iadd hx hb dX12_unitsOf_42 ?_
        obtain ⟨b5, h⟩ := gB_e h
        refine wr_iald hx hb hK hP (k := 2) (by decide) 0 ((tM_2 Z) _ _ _) rfl b5 dX12_unitsOf_43 ?_
        exact kb_X12_unitsOf_44 Z    C  hc4 σ l1 l3 (σ.1 2 ((24 * l1) + l3).toNatClampNeg) l2 h H locs hP hS ls (lv_sub hl [0, 1, 3] rfl)
      · have h := if_n h q4
        refine lv_iconst (v := 0) hx hb dX12_unitsOf_29 (by decide) ?_
        refine lv_goto (tgt := 44) hx hb dX12_unitsOf_30 (by decide) ?_
        exact kb_X12_unitsOf_44 Z    C  hc4 σ l1 l3 0 l2 h H locs hP hS ls (lv_sub hl [0, 1, 3] rfl)
def m_X12_unitsOf_0    (σ : SG) (p0 : Int32) : Option (Int32 × SG) :=
  m_X12_unitsOf_4    FV σ p0 0 0
set_option maxHeartbeats 4000000 in
set_option maxRecDepth 100000 in
theorem kb_X12_unitsOf_0 {p : Program} {l : Launch} {e : Env} {s : State} {m : MethodId} {args : Array Value} {below : List Frame} {meth : Method} {c : Code} {E : EF} (Z : ZT)    (C : cy p s m args meth c cX12_unitsOf (some .int) 4 RX12 wsX12_unitsOf E (zD Z) vwCl 24 (za Z) (tysM Z)) {res : Int32 × SG}   : ∀ (σ : SG) (p0 : Int32) , m_X12_unitsOf_0    σ p0 = some res → ∀ (H : Heap) (locs : List Loc), ws_P (zD Z) vwCl 24 (za Z) (tM Z) σ H → va_S (ws_A 24 (za Z)) s.heap H locs → ∀ (ls : Array Slot), lv_has ls 4 [(0, .ref (za Z 0)), (1, .int p0)] → W p l e rm_X12_unitsOf s m args below meth c H locs 0 0 (MQ below (xQi E (zD Z) vwCl 24 (za Z) (tM Z) (tysM Z) res) args s 0 0 (ws_A 24 (za Z))) (F0 m 0 ls []) := by
  have C0 := C
  obtain ⟨hx, hb, hr, hlocks, hml, hown, hts, hE, hJ, hK⟩ := C0
  intro σ p0  h H locs hP hS ls hl
  unfold m_X12_unitsOf_0 at h
  refine lv_iconst (v := 0) hx hb dX12_unitsOf_0 (by decide) ?_
  refine lv_istore_n (lv' := [(2, .int 0), (0, .ref (za Z 0)), (1, .int p0)]) hx hb dX12_unitsOf_1 rfl hl (by decide) rfl (fun ls hl => ?_)
  refine lv_iconst (v := 0) hx hb dX12_unitsOf_2 (by decide) ?_
  refine lv_istore_n (lv' := [(3, .int 0), (2, .int 0), (0, .ref (za Z 0)), (1, .int p0)]) hx hb dX12_unitsOf_3 rfl hl (by decide) rfl (fun ls hl => ?_)
  exact kb_X12_unitsOf_4 Z    C   FV σ p0 0 0 h H locs hP hS ls (lv_sub hl [2, 3, 1, 0] rfl)
def m_X12_unitsOf   (σ : SG) (p0 : Int32) : Option (Int32 × SG) := m_X12_unitsOf_0   σ p0
set_option maxHeartbeats 4000000 in
set_option maxRecDepth 100000 in
theorem k_X12_unitsOf (l : Launch) {E : EF} (Z : ZT)    (σ : SG) (p0 : Int32) {res : Int32 × SG} (h : m_X12_unitsOf   σ p0 = some res) : Met l yX12_unitsOf wsX12_unitsOf rm_X12_unitsOf (va_Pc [.ref (za Z 0), .int p0] (wx E (zD Z) vwCl 24 (za Z) (tM Z) (tysM Z) σ)) (xQi E (zD Z) vwCl 24 (za Z) (tM Z) (tysM Z) res) 0 0 (ws_A 24 (za Z)) := by
  refine Met.ofW (cc := cX12_unitsOf) (maxL := 4) (ret := (some .int)) (by decide) rfl ?_
  intro p e s m args below meth c s₁ B hml hv
  obtain ⟨rfl, hE, hJ, hP, hK⟩ := hv
  have hl := lv_entry ([.ref (za Z 0), .int p0]) (n := 4) (Nat.le_of_ble_eq_true rfl)
  rw [lg_entry_eq]
  generalize (lg_sl ([.ref (za Z 0), .int p0]) ++ List.replicate (4 - (lg_sl ([.ref (za Z 0), .int p0])).length) Slot.unset).toArray = ls at hl ⊢
  exact kb_X12_unitsOf_0 Z    ⟨B.exec, B.bytes, B.returns, B.notSynchronized, hml, findClass_of_methodNamed B.named, atoms_spec (ws := wsX12_unitsOf) B.pre, hE, hJ, hK⟩ σ p0 h s.heap [] hP va_S.rf ls hl
/-! TuneSearchModel.lay(II)V -/
abbrev rm_X12_lay : Room := { frames := 1, cells := 0, slots := 0, locals := 21 }
theorem in_X12_lay_X12 : ∀ w ∈ wsX120, w ∈ wsX12_lay := by decide +kernel
def m_X12_lay_116   (c5 : SG → Int32 → Int32 → Int32 → Int32 → Option (Unit × SG)) (c64 : SG → Int32 → Int32 → Int32 → Int32 → Int32 → Int32 → Int32 → Option (Unit × SG)) (σ : SG) (l1 : Int32) (l2 : Int32) (l3 : Int32) (l4 : Int32) (l5 : Int32) (l6 : Int32) (l7 : Int32) (l8 : Int32) (s0 : Int32) (s1 : Int32) : Option (Unit × SG) :=
  gB (inB s1 24) (lS (sI σ 18 s1.toNatClampNeg s0) (fun σ24 => gB (inB 5 8) (lS (if 0 ≤ (l3 - l6) then (l3 - l6) else 0 - (l3 - l6)) (fun v27 => gB (inB 6 8) (lS (if 0 ≤ (l5 - l8) then (l5 - l8) else 0 - (l5 - l8)) (fun v30 => gB (inB ((24 * l4) + l7) 576) (lS (sJ σ24 20 ((24 * l4) + l7).toNatClampNeg ((((σ24.1 4 (5 : Int32).toNatClampNeg).toInt64) * v27.toInt64) + (((σ24.1 4 (6 : Int32).toNatClampNeg).toInt64) * v30.toInt64))) (fun σ33 => gB (inB ((24 * l4) + l7) 576) (lS (sI σ33 19 ((24 * l4) + l7).toNatClampNeg 0) (fun σ36 => gB (inB ((24 * l2) + l7) 216) (lS (l6 + (σ36.1 2 ((24 * l2) + l7).toNatClampNeg)) (fun v39 => lS (l7 + 1) (fun v41 => c64 σ36 l1 l2 l3 l4 l5 v39 v41)))))))))))))
set_option maxHeartbeats 4000000 in
set_option maxRecDepth 100000 in
theorem kb_X12_lay_116 {p : Program} {l : Launch} {e : Env} {s : State} {m : MethodId} {args : Array Value} {below : List Frame} {meth : Method} {c : Code} {E : EF} (Z : ZT)    (C : cy p s m args meth c cX12_lay none 9 RX12 wsX12_lay E (zD Z) vwCl 24 (za Z) (tysM Z)) {res : Unit × SG} {c5 : SG → Int32 → Int32 → Int32 → Int32 → Option (Unit × SG)} {c64 : SG → Int32 → Int32 → Int32 → Int32 → Int32 → Int32 → Int32 → Option (Unit × SG)} (hc5 : ∀ (σ : SG) (l1 : Int32) (l2 : Int32) (l3 : Int32) (l4 : Int32) , c5 σ l1 l2 l3 l4 = some res → ∀ (H : Heap) (locs : List Loc), ws_P (zD Z) vwCl 24 (za Z) (tM Z) σ H → va_S (ws_A 24 (za Z)) s.heap H locs → ∀ (ls : Array Slot), lv_has ls 9 [(0, .ref (za Z 0)), (1, .int l1), (2, .int l2), (3, .int l3), (4, .int l4)] → W p l e rm_X12_lay s m args below meth c H locs 0 0 (MQ below (xQv E (zD Z) vwCl 24 (za Z) (tM Z) (tysM Z) res) args s 0 0 (ws_A 24 (za Z))) (F0 m 5 ls [])) (hc64 : ∀ (σ : SG) (l1 : Int32) (l2 : Int32) (l3 : Int32) (l4 : Int32) (l5 : Int32) (l6 : Int32) (l7 : Int32) , c64 σ l1 l2 l3 l4 l5 l6 l7 = some res → ∀ (H : Heap) (locs : List Loc), ws_P (zD Z) vwCl 24 (za Z) (tM Z) σ H → va_S (ws_A 24 (za Z)) s.heap H locs → ∀ (ls : Array Slot), lv_has ls 9 [(0, .ref (za Z 0)), (1, .int l1), (2, .int l2), (3, .int l3), (4, .int l4), (5, .int l5), (6, .int l6), (7, .int l7)] → W p l e rm_X12_lay s m args below meth c H locs 0 0 (MQ below (xQv E (zD Z) vwCl 24 (za Z) (tM Z) (tysM Z) res) args s 0 0 (ws_A 24 (za Z))) (F0 m 64 ls [])) : ∀ (σ : SG) (l1 : Int32) (l2 : Int32) (l3 : Int32) (l4 : Int32) (l5 : Int32) (l6 : Int32) (l7 : Int32) (l8 : Int32) (s0 : Int32) (s1 : Int32) , m_X12_lay_116   c5 c64 σ l1 l2 l3 l4 l5 l6 l7 l8 s0 s1 = some res → ∀ (H : Heap) (locs : List Loc), ws_P (zD Z) vwCl 24 (za Z) (tM Z) σ H → va_S (ws_A 24 (za Z)) s.heap H locs → ∀ (ls : Array Slot), lv_has ls 9 [(0, .ref (za Z 0)), (1, .int l1), (2, .int l2), (3, .int l3), (4, .int l4), (5, .int l5), (6, .int l6), (7, .int l7), (8, .int l8)] → W p l e rm_X12_lay s m args below meth c H locs 0 0 (MQ below (xQv E (zD Z) vwCl 24 (za Z) (tM Z) (tysM Z) res) args s 0 0 (ws_A 24 (za Z))) (F0 m 116 ls [.int s0, .int s1, .ref (za Z 18)]) := by
  have C0 := C
  obtain ⟨hx, hb, hr, hlocks, hml, hown, hts, hE, hJ, hK⟩ := C0
  intro σ l1 l2 l3 l4 l5 l6 l7 l8 s0 s1  h H locs hP hS ls hl
  unfold m_X12_lay_116 at h
  obtain ⟨b23, h⟩ := gB_e h
  refine wr_iast hx hb hK hP hJ hS (k := 18) (by decide) 0 (tM_18 Z) rfl b23 dX12_lay_116 (fun H locs hP hS => ?_)
  obtain ⟨σ24, e25, h⟩ := lS_e h
  rw [← e25] at hP
  refine lv_aload_n hx hb dX12_lay_117 rfl (lv_at hl 0 rfl) ?_
  refine wr_get (C := RX12) (T := TX12) (N := 41) hx hb hts (in_X12_lay_X12) hown hK hP (k := 0) (by decide) ((tM_0 Z) _ _ _) rfl 35 (by decide) (hts (.fieldLink RX12 74 "TuneSearchModel" "costs" "[J") (by decide +kernel)) (fun _ h9 => h9) rfl dX12_lay_118 ?_
  refine lv_bipush (v := 24) hx hb dX12_lay_121 (by decide) ?_
  refine lv_iload hx hb dX12_lay_123 (lv_at hl 4 rfl) ?_
  refine lv_imul hx hb dX12_lay_125 ?_
  refine lv_iload hx hb dX12_lay_126 (lv_at hl 7 rfl) ?_
  refine lv_iadd hx hb dX12_lay_128 ?_
  refine lv_aload_n hx hb dX12_lay_129 rfl (lv_at hl 0 rfl) ?_
  refine wr_get (C := RX12) (T := TX12) (N := 41) hx hb hts (in_X12_lay_X12) hown hK hP (k := 0) (by decide) ((tM_0 Z) _ _ _) rfl 5 (by decide) (hts (.fieldLink RX12 21 "TuneSearchModel" "prices" "[I") (by decide +kernel)) (fun _ h9 => h9) rfl dX12_lay_130 ?_
  refine lv_iconst (v := 5) hx hb dX12_lay_133 (by decide) ?_
  obtain ⟨b26, h⟩ := gB_e h
  refine wr_iald hx hb hK hP (k := 4) (by decide) 0 ((tM_4 Z) _ _ _) rfl b26 dX12_lay_134 ?_
  refine lv_i2l hx hb dX12_lay_135 rfl ?_
  refine lv_iload_n hx hb dX12_lay_136 rfl (lv_at hl 3 rfl) ?_
  refine lv_iload hx hb dX12_lay_137 (lv_at hl 6 rfl) ?_
  refine lv_isub hx hb dX12_lay_139 ?_
  refine va_mabs hx hb (by rw [hml]; exact hl.1.symm) hown (hts (.methodLink RX12 220 Lib.Math.abs.name) (by decide +kernel)) (hts (.static Lib.Math.abs.name) (by decide +kernel)) (hts (.initialized "java/lang/Math") (by decide +kernel)) (hts (.code Lib.Math.abs.name Lib.Math.abs.code 1 (some .int)) (by decide +kernel)) (Nat.le_of_ble_eq_true rfl) (Nat.le_of_ble_eq_true rfl) (Nat.le_of_ble_eq_true rfl) (Nat.le_of_ble_eq_true rfl) dX12_lay_140 ?_
  refine lv_topi (fun v27 e28 => ?_)
  have h := lS_u h e28
  refine lv_i2l hx hb dX12_lay_143 rfl ?_
  refine lv_lmul hx hb dX12_lay_144 ?_
  refine lv_aload_n hx hb dX12_lay_145 rfl (lv_at hl 0 rfl) ?_
  refine wr_get (C := RX12) (T := TX12) (N := 41) hx hb hts (in_X12_lay_X12) hown hK hP (k := 0) (by decide) ((tM_0 Z) _ _ _) rfl 5 (by decide) (hts (.fieldLink RX12 21 "TuneSearchModel" "prices" "[I") (by decide +kernel)) (fun _ h9 => h9) rfl dX12_lay_146 ?_
  refine lv_bipush (v := 6) hx hb dX12_lay_149 (by decide) ?_
  obtain ⟨b29, h⟩ := gB_e h
  refine wr_iald hx hb hK hP (k := 4) (by decide) 0 ((tM_4 Z) _ _ _) rfl b29 dX12_lay_151 ?_
  refine lv_i2l hx hb dX12_lay_152 rfl ?_
  refine lv_iload hx hb dX12_lay_153 (lv_at hl 5 rfl) ?_
  refine lv_iload hx hb dX12_lay_155 (lv_at hl 8 rfl) ?_
  refine lv_isub hx hb dX12_lay_157 ?_
  refine va_mabs hx hb (by rw [hml]; exact hl.1.symm) hown (hts (.methodLink RX12 220 Lib.Math.abs.name) (by decide +kernel)) (hts (.static Lib.Math.abs.name) (by decide +kernel)) (hts (.initialized "java/lang/Math") (by decide +kernel)) (hts (.code Lib.Math.abs.name Lib.Math.abs.code 1 (some .int)) (by decide +kernel)) (Nat.le_of_ble_eq_true rfl) (Nat.le_of_ble_eq_true rfl) (Nat.le_of_ble_eq_true rfl) (Nat.le_of_ble_eq_true rfl) dX12_lay_158 ?_
  refine lv_topi (fun v30 e31 => ?_)
  have h := lS_u h e31
  refine lv_i2l hx hb dX12_lay_161 rfl ?_
  refine lv_lmul hx hb dX12_lay_162 ?_
  refine lv_ladd hx hb dX12_lay_163 ?_
  obtain ⟨b32, h⟩ := gB_e h
  refine wr_last hx hb hK hP hJ hS (k := 20) (by decide) 1 (tM_20 Z) rfl b32 dX12_lay_164 (fun H locs hP hS => ?_)
  obtain ⟨σ33, e34, h⟩ := lS_e h
  rw [← e34] at hP
  refine lv_aload_n hx hb dX12_lay_165 rfl (lv_at hl 0 rfl) ?_
  refine wr_get (C := RX12) (T := TX12) (N := 41) hx hb hts (in_X12_lay_X12) hown hK hP (k := 0) (by decide) ((tM_0 Z) _ _ _) rfl 34 (by decide) (hts (.fieldLink RX12 71 "TuneSearchModel" "goes" "[I") (by decide +kernel)) (fun _ h9 => h9) rfl dX12_lay_166 ?_
  refine lv_bipush (v := 24) hx hb dX12_lay_169 (by decide) ?_
  refine lv_iload hx hb dX12_lay_171 (lv_at hl 4 rfl) ?_
  refine lv_imul hx hb dX12_lay_173 ?_
  refine lv_iload hx hb dX12_lay_174 (lv_at hl 7 rfl) ?_
  refine lv_iadd hx hb dX12_lay_176 ?_
  refine lv_iconst (v := 0) hx hb dX12_lay_177 (by decide) ?_
  obtain ⟨b35, h⟩ := gB_e h
  refine wr_iast hx hb hK hP hJ hS (k := 19) (by decide) 0 (tM_19 Z) rfl b35 dX12_lay_178 (fun H locs hP hS => ?_)
  obtain ⟨σ36, e37, h⟩ := lS_e h
  rw [← e37] at hP
  refine lv_iload hx hb dX12_lay_179 (lv_at hl 6 rfl) ?_
  refine lv_aload_n hx hb dX12_lay_181 rfl (lv_at hl 0 rfl) ?_
  refine wr_get (C := RX12) (T := TX12) (N := 41) hx hb hts (in_X12_lay_X12) hown hK hP (k := 0) (by decide) ((tM_0 Z) _ _ _) rfl 2 (by decide) (hts (.fieldLink RX12 15 "TuneSearchModel" "length" "[I") (by decide +kernel)) (fun _ h9 => h9) rfl dX12_lay_182 ?_
  refine lv_bipush (v := 24) hx hb dX12_lay_185 (by decide) ?_
  refine lv_iload_n hx hb dX12_lay_187 rfl (lv_at hl 2 rfl) ?_
  refine lv_imul hx hb dX12_lay_188 ?_
  refine lv_iload hx hb dX12_lay_189 (lv_at hl 7 rfl) ?_
  refine lv_iadd hx hb dX12_lay_191 ?_
  obtain ⟨b38, h⟩ := gB_e h
  refine wr_iald hx hb hK hP (k := 2) (by decide) 0 ((tM_2 Z) _ _ _) rfl b38 dX12_lay_192 ?_
  refine lv_iadd hx hb dX12_lay_193 ?_
  refine lv_topi (fun v39 e40 => ?_)
  have h := lS_u h e40
  refine lv_istore (lv' := [(6, .int v39), (0, .ref (za Z 0)), (1, .int l1), (2, .int l2), (3, .int l3), (4, .int l4), (5, .int l5), (7, .int l7), (8, .int l8)]) hx hb dX12_lay_194 hl (by decide) rfl (fun ls hl => ?_)
  obtain ⟨v41, e42, h⟩ := lS_e h
  refine lv_iinc (v := v41) (lv' := [(7, .int v41), (6, .int v39), (0, .ref (za Z 0)), (1, .int l1), (2, .int l2), (3, .int l3), (4, .int l4), (5, .int l5), (8, .int l8)]) hx hb dX12_lay_196 hl (k := 7) rfl (by rw [e42]; rfl) (by decide) rfl (fun ls hl => ?_)
  refine lv_goto (tgt := 64) hx hb dX12_lay_199 (by decide) ?_
  exact hc64 σ36 l1 l2 l3 l4 l5 v39 v41 h H locs hP hS ls (lv_sub hl [2, 3, 4, 5, 6, 7, 1, 0] rfl)
def m_X12_lay_64_s   (c5 : SG → Int32 → Int32 → Int32 → Int32 → Option (Unit × SG)) (c64 : SG → Int32 → Int32 → Int32 → Int32 → Int32 → Int32 → Int32 → Option (Unit × SG)) (σ : SG) (l1 : Int32) (l2 : Int32) (l3 : Int32) (l4 : Int32) (l5 : Int32) (l6 : Int32) (l7 : Int32) : Option (Unit × SG) :=
  gB (inB l2 9) (if (σ.1 3 l2.toNatClampNeg) ≤ l7 then (gB (inB ((24 * l1) + l4) 216) (lS (l3 + (σ.1 2 ((24 * l1) + l4).toNatClampNeg)) (fun v14 => lS (l4 + 1) (fun v16 => c5 σ l1 l2 v14 v16)))) else (gB (inB ((24 * l2) + l7) 216) (lS (σ.1 1 ((24 * l2) + l7).toNatClampNeg) (fun v19 => if 0 ≤ v19 then (gB (inB ((24 * l2) + l7) 216) (m_X12_lay_116   c5 c64 σ l1 l2 l3 l4 l5 l6 l7 v19 (σ.1 2 ((24 * l2) + l7).toNatClampNeg) l7)) else (m_X12_lay_116   c5 c64 σ l1 l2 l3 l4 l5 l6 l7 v19 0 l7)))))
def m_X12_lay_64   (c5 : SG → Int32 → Int32 → Int32 → Int32 → Option (Unit × SG)) : Nat → SG → Int32 → Int32 → Int32 → Int32 → Int32 → Int32 → Int32 → Option (Unit × SG)
  | 0, _, _, _, _, _, _, _, _ => none
  | n + 1, σ, l1, l2, l3, l4, l5, l6, l7 => m_X12_lay_64_s   c5 (m_X12_lay_64   c5 n) σ l1 l2 l3 l4 l5 l6 l7
set_option maxHeartbeats 4000000 in
set_option maxRecDepth 100000 in
theorem kb_X12_lay_64 {p : Program} {l : Launch} {e : Env} {s : State} {m : MethodId} {args : Array Value} {below : List Frame} {meth : Method} {c : Code} {E : EF} (Z : ZT)    (C : cy p s m args meth c cX12_lay none 9 RX12 wsX12_lay E (zD Z) vwCl 24 (za Z) (tysM Z)) {res : Unit × SG} {c5 : SG → Int32 → Int32 → Int32 → Int32 → Option (Unit × SG)} (hc5 : ∀ (σ : SG) (l1 : Int32) (l2 : Int32) (l3 : Int32) (l4 : Int32) , c5 σ l1 l2 l3 l4 = some res → ∀ (H : Heap) (locs : List Loc), ws_P (zD Z) vwCl 24 (za Z) (tM Z) σ H → va_S (ws_A 24 (za Z)) s.heap H locs → ∀ (ls : Array Slot), lv_has ls 9 [(0, .ref (za Z 0)), (1, .int l1), (2, .int l2), (3, .int l3), (4, .int l4)] → W p l e rm_X12_lay s m args below meth c H locs 0 0 (MQ below (xQv E (zD Z) vwCl 24 (za Z) (tM Z) (tysM Z) res) args s 0 0 (ws_A 24 (za Z))) (F0 m 5 ls [])) : ∀ (n : Nat) (σ : SG) (l1 : Int32) (l2 : Int32) (l3 : Int32) (l4 : Int32) (l5 : Int32) (l6 : Int32) (l7 : Int32) , m_X12_lay_64   c5 n σ l1 l2 l3 l4 l5 l6 l7 = some res → ∀ (H : Heap) (locs : List Loc), ws_P (zD Z) vwCl 24 (za Z) (tM Z) σ H → va_S (ws_A 24 (za Z)) s.heap H locs → ∀ (ls : Array Slot), lv_has ls 9 [(0, .ref (za Z 0)), (1, .int l1), (2, .int l2), (3, .int l3), (4, .int l4), (5, .int l5), (6, .int l6), (7, .int l7)] → W p l e rm_X12_lay s m args below meth c H locs 0 0 (MQ below (xQv E (zD Z) vwCl 24 (za Z) (tM Z) (tysM Z) res) args s 0 0 (ws_A 24 (za Z))) (F0 m 64 ls []) := by
  have C0 := C
  obtain ⟨hx, hb, hr, hlocks, hml, hown, hts, hE, hJ, hK⟩ := C0
  intro n
  induction n with
  | zero =>
    intro σ l1 l2 l3 l4 l5 l6 l7  h
    cases h
  | succ n ih =>
    intro σ l1 l2 l3 l4 l5 l6 l7  h H locs hP hS ls hl
    have hc64 : ∀ (σ : SG) (l1 : Int32) (l2 : Int32) (l3 : Int32) (l4 : Int32) (l5 : Int32) (l6 : Int32) (l7 : Int32) , m_X12_lay_64   c5 n σ l1 l2 l3 l4 l5 l6 l7 = some res → ∀ (H : Heap) (locs : List Loc), ws_P (zD Z) vwCl 24 (za Z) (tM Z) σ H → va_S (ws_A 24 (za Z)) s.heap H locs → ∀ (ls : Array Slot), lv_has ls 9 [(0, .ref (za Z 0)), (1, .int l1), (2, .int l2), (3, .int l3), (4, .int l4), (5, .int l5), (6, .int l6), (7, .int l7)] → W p l e rm_X12_lay s m args below meth c H locs 0 0 (MQ below (xQv E (zD Z) vwCl 24 (za Z) (tM Z) (tysM Z) res) args s 0 0 (ws_A 24 (za Z))) (F0 m 64 ls []) := ih
    have h : m_X12_lay_64_s   c5 (m_X12_lay_64   c5 n) σ l1 l2 l3 l4 l5 l6 l7 = some res := h
    unfold m_X12_lay_64_s at h
    refine lv_iload hx hb dX12_lay_64 (lv_at hl 7 rfl) ?_
    refine lv_aload_n hx hb dX12_lay_66 rfl (lv_at hl 0 rfl) ?_
    refine wr_get (C := RX12) (T := TX12) (N := 41) hx hb hts (in_X12_lay_X12) hown hK hP (k := 0) (by decide) ((tM_0 Z) _ _ _) rfl 3 (by decide) (hts (.fieldLink RX12 18 "TuneSearchModel" "size" "[I") (by decide +kernel)) (fun _ h9 => h9) rfl dX12_lay_67 ?_
    refine lv_iload_n hx hb dX12_lay_70 rfl (lv_at hl 2 rfl) ?_
    obtain ⟨b11, h⟩ := gB_e h
    refine wr_iald hx hb hK hP (k := 3) (by decide) 0 ((tM_3 Z) _ _ _) rfl b11 dX12_lay_71 ?_
    refine lv_icmp_ge (tgt := 202) hx hb dX12_lay_72 (by decide) (fun q12 => ?_) (fun q12 => ?_)
    · have h := if_p h q12
      refine lv_iload_n hx hb dX12_lay_202 rfl (lv_at hl 3 rfl) ?_
      refine lv_aload_n hx hb dX12_lay_203 rfl (lv_at hl 0 rfl) ?_
      refine wr_get (C := RX12) (T := TX12) (N := 41) hx hb hts (in_X12_lay_X12) hown hK hP (k := 0) (by decide) ((tM_0 Z) _ _ _) rfl 2 (by decide) (hts (.fieldLink RX12 15 "TuneSearchModel" "length" "[I") (by decide +kernel)) (fun _ h9 => h9) rfl dX12_lay_204 ?_
      refine lv_bipush (v := 24) hx hb dX12_lay_207 (by decide) ?_
      refine lv_iload_n hx hb dX12_lay_209 rfl (lv_at hl 1 rfl) ?_
      refine lv_imul hx hb dX12_lay_210 ?_
      refine lv_iload hx hb dX12_lay_211 (lv_at hl 4 rfl) ?_
      refine lv_iadd hx hb dX12_lay_213 ?_
      obtain ⟨b13, h⟩ := gB_e h
      refine wr_iald hx hb hK hP (k := 2) (by decide) 0 ((tM_2 Z) _ _ _) rfl b13 dX12_lay_214 ?_
      refine lv_iadd hx hb dX12_lay_215 ?_
      refine lv_topi (fun v14 e15 => ?_)
      have h := lS_u h e15
      refine lv_istore_n (lv' := [(3, .int v14), (0, .ref (za Z 0)), (1, .int l1), (2, .int l2), (4, .int l4), (5, .int l5), (6, .int l6), (7, .int l7)]) hx hb dX12_lay_216 rfl hl (by decide) rfl (fun ls hl => ?_)
      obtain ⟨v16, e17, h⟩ := lS_e h
      refine lv_iinc (v := v16) (lv' := [(4, .int v16), (3, .int v14), (0, .ref (za Z 0)), (1, .int l1), (2, .int l2), (5, .int l5), (6, .int l6), (7, .int l7)]) hx hb dX12_lay_217 hl (k := 4) rfl (by rw [e17]; rfl) (by decide) rfl (fun ls hl => ?_)
      refine lv_goto (tgt := 5) hx hb dX12_lay_220 (by decide) ?_
      exact hc5 σ l1 l2 v14 v16 h H locs hP hS ls (lv_sub hl [2, 3, 4, 1, 0] rfl)
    · have h := if_n h q12
      refine lv_aload_n hx hb dX12_lay_75 rfl (lv_at hl 0 rfl) ?_
      refine wr_get (C := RX12) (T := TX12) (N := 41) hx hb hts (in_X12_lay_X12) hown hK hP (k := 0) (by decide) ((tM_0 Z) _ _ _) rfl 1 (by decide) (hts (.fieldLink RX12 11 "TuneSearchModel" "pitch" "[I") (by decide +kernel)) (fun _ h9 => h9) rfl dX12_lay_76 ?_
      refine lv_bipush (v := 24) hx hb dX12_lay_79 (by decide) ?_
      refine lv_iload_n hx hb dX12_lay_81 rfl (lv_at hl 2 rfl) ?_
      refine lv_imul hx hb dX12_lay_82 ?_
      refine lv_iload hx hb dX12_lay_83 (lv_at hl 7 rfl) ?_
      refine lv_iadd hx hb dX12_lay_85 ?_
      obtain ⟨b18, h⟩ := gB_e h
      refine wr_iald hx hb hK hP (k := 1) (by decide) 0 ((tM_1 Z) _ _ _) rfl b18 dX12_lay_86 ?_
      refine lv_topi (fun v19 e20 => ?_)
      have h := lS_u h e20
      refine lv_istore (lv' := [(8, .int v19), (0, .ref (za Z 0)), (1, .int l1), (2, .int l2), (3, .int l3), (4, .int l4), (5, .int l5), (6, .int l6), (7, .int l7)]) hx hb dX12_lay_87 hl (by decide) rfl (fun ls hl => ?_)
      refine lv_aload_n hx hb dX12_lay_89 rfl (lv_at hl 1 rfl) ?_
      refine wr_get (C := RX12) (T := TX12) (N := 41) hx hb hts (in_X12_lay_X12) hown hK hP (k := 0) (by decide) ((tM_0 Z) _ _ _) rfl 33 (by decide) (hts (.fieldLink RX12 68 "TuneSearchModel" "leftB" "[I") (by decide +kernel)) (fun _ h9 => h9) rfl dX12_lay_90 ?_
      refine lv_iload hx hb dX12_lay_93 (lv_at hl 8 rfl) ?_
      refine lv_iload hx hb dX12_lay_95 (lv_at hl 0 rfl) ?_
      refine lv_if_ge (tgt := 104) hx hb dX12_lay_97 (by decide) (fun q21 => ?_) (fun q21 => ?_)
      · have h := if_p h q21
        refine lv_aload_n hx hb dX12_lay_104 rfl (lv_at hl 1 rfl) ?_
        refine wr_get (C := RX12) (T := TX12) (N := 41) hx hb hts (in_X12_lay_X12) hown hK hP (k := 0) (by decide) ((tM_0 Z) _ _ _) rfl 2 (by decide) (hts (.fieldLink RX12 15 "TuneSearchModel" "length" "[I") (by decide +kernel)) (fun _ h9 => h9) rfl dX12_lay_105 ?_
        refine lv_bipush (v := 24) hx hb dX12_lay_108 (by decide) ?_
        refine lv_iload_n hx hb dX12_lay_110 rfl (lv_at hl 3 rfl) ?_
        refine lv_imul hx hb dX12_lay_111 ?_
        refine lv_iload hx hb dX12_lay_112 (lv_at hl 8 rfl) ?_
        refine lv_iadd hx hb dX12_lay_114 ?_
        obtain ⟨b22, h⟩ := gB_e h
        refine wr_iald hx hb hK hP (k := 2) (by decide) 0 ((tM_2 Z) _ _ _) rfl b22 dX12_lay_115 ?_
        exact kb_X12_lay_116 Z    C  hc5 hc64 σ l1 l2 l3 l4 l5 l6 l7 v19 (σ.1 2 ((24 * l2) + l7).toNatClampNeg) l7 h H locs hP hS ls (lv_sub hl [1, 2, 3, 4, 5, 6, 7, 8, 0] rfl)
      · have h := if_n h q21
        refine lv_iconst (v := 0) hx hb dX12_lay_100 (by decide) ?_
        refine lv_goto (tgt := 116) hx hb dX12_lay_101 (by decide) ?_
        exact kb_X12_lay_116 Z    C  hc5 hc64 σ l1 l2 l3 l4 l5 l6 l7 v19 0 l7 h H locs hP hS ls (lv_sub hl [1, 2, 3, 4, 5, 6, 7, 8, 0] rfl)
def m_X12_lay_57   (c5 : SG → Int32 → Int32 → Int32 → Int32 → Option (Unit × SG)) (σ : SG) (l1 : Int32) (l2 : Int32) (l3 : Int32) (l4 : Int32) (l5 : Int32) (s0 : Int32) (s1 : Int32) : Option (Unit × SG) :=
  gB (inB s1 24) (lS (sI σ 17 s1.toNatClampNeg s0) (fun σ9 => m_X12_lay_64   c5 FV σ9 l1 l2 l3 l4 l5 0 0))
set_option maxHeartbeats 4000000 in
set_option maxRecDepth 100000 in
theorem kb_X12_lay_57 {p : Program} {l : Launch} {e : Env} {s : State} {m : MethodId} {args : Array Value} {below : List Frame} {meth : Method} {c : Code} {E : EF} (Z : ZT)    (C : cy p s m args meth c cX12_lay none 9 RX12 wsX12_lay E (zD Z) vwCl 24 (za Z) (tysM Z)) {res : Unit × SG} {c5 : SG → Int32 → Int32 → Int32 → Int32 → Option (Unit × SG)} (hc5 : ∀ (σ : SG) (l1 : Int32) (l2 : Int32) (l3 : Int32) (l4 : Int32) , c5 σ l1 l2 l3 l4 = some res → ∀ (H : Heap) (locs : List Loc), ws_P (zD Z) vwCl 24 (za Z) (tM Z) σ H → va_S (ws_A 24 (za Z)) s.heap H locs → ∀ (ls : Array Slot), lv_has ls 9 [(0, .ref (za Z 0)), (1, .int l1), (2, .int l2), (3, .int l3), (4, .int l4)] → W p l e rm_X12_lay s m args below meth c H locs 0 0 (MQ below (xQv E (zD Z) vwCl 24 (za Z) (tM Z) (tysM Z) res) args s 0 0 (ws_A 24 (za Z))) (F0 m 5 ls [])) : ∀ (σ : SG) (l1 : Int32) (l2 : Int32) (l3 : Int32) (l4 : Int32) (l5 : Int32) (s0 : Int32) (s1 : Int32) , m_X12_lay_57   c5 σ l1 l2 l3 l4 l5 s0 s1 = some res → ∀ (H : Heap) (locs : List Loc), ws_P (zD Z) vwCl 24 (za Z) (tM Z) σ H → va_S (ws_A 24 (za Z)) s.heap H locs → ∀ (ls : Array Slot), lv_has ls 9 [(0, .ref (za Z 0)), (1, .int l1), (2, .int l2), (3, .int l3), (4, .int l4), (5, .int l5)] → W p l e rm_X12_lay s m args below meth c H locs 0 0 (MQ below (xQv E (zD Z) vwCl 24 (za Z) (tM Z) (tysM Z) res) args s 0 0 (ws_A 24 (za Z))) (F0 m 57 ls [.int s0, .int s1, .ref (za Z 17)]) := by
  have C0 := C
  obtain ⟨hx, hb, hr, hlocks, hml, hown, hts, hE, hJ, hK⟩ := C0
  intro σ l1 l2 l3 l4 l5 s0 s1  h H locs hP hS ls hl
  unfold m_X12_lay_57 at h
  obtain ⟨b8, h⟩ := gB_e h
  refine wr_iast hx hb hK hP hJ hS (k := 17) (by decide) 0 (tM_17 Z) rfl b8 dX12_lay_57 (fun H locs hP hS => ?_)
  obtain ⟨σ9, e10, h⟩ := lS_e h
  rw [← e10] at hP
  refine lv_iconst (v := 0) hx hb dX12_lay_58 (by decide) ?_
  refine lv_istore (lv' := [(6, .int 0), (0, .ref (za Z 0)), (1, .int l1), (2, .int l2), (3, .int l3), (4, .int l4), (5, .int l5)]) hx hb dX12_lay_59 hl (by decide) rfl (fun ls hl => ?_)
  refine lv_iconst (v := 0) hx hb dX12_lay_61 (by decide) ?_
  refine lv_istore (lv' := [(7, .int 0), (6, .int 0), (0, .ref (za Z 0)), (1, .int l1), (2, .int l2), (3, .int l3), (4, .int l4), (5, .int l5)]) hx hb dX12_lay_62 hl (by decide) rfl (fun ls hl => ?_)
  exact kb_X12_lay_64 Z    C  hc5 FV σ9 l1 l2 l3 l4 l5 0 0 h H locs hP hS ls (lv_sub hl [2, 3, 4, 5, 6, 7, 1, 0] rfl)
def m_X12_lay_5_s    (c5 : SG → Int32 → Int32 → Int32 → Int32 → Option (Unit × SG)) (σ : SG) (l1 : Int32) (l2 : Int32) (l3 : Int32) (l4 : Int32) : Option (Unit × SG) :=
  gB (inB l1 9) (if (σ.1 3 l1.toNatClampNeg) ≤ l4 then (some ((), σ)) else (gB (inB ((24 * l1) + l4) 216) (lS (σ.1 1 ((24 * l1) + l4).toNatClampNeg) (fun v4 => if 0 ≤ v4 then (gB (inB ((24 * l1) + l4) 216) (m_X12_lay_57   c5 σ l1 l2 l3 l4 v4 (σ.1 2 ((24 * l1) + l4).toNatClampNeg) l4)) else (m_X12_lay_57   c5 σ l1 l2 l3 l4 v4 0 l4)))))
def m_X12_lay_5    : Nat → SG → Int32 → Int32 → Int32 → Int32 → Option (Unit × SG)
  | 0, _, _, _, _, _ => none
  | n + 1, σ, l1, l2, l3, l4 => m_X12_lay_5_s    (m_X12_lay_5    n) σ l1 l2 l3 l4
set_option maxHeartbeats 4000000 in
set_option maxRecDepth 100000 in
theorem kb_X12_lay_5 {p : Program} {l : Launch} {e : Env} {s : State} {m : MethodId} {args : Array Value} {below : List Frame} {meth : Method} {c : Code} {E : EF} (Z : ZT)    (C : cy p s m args meth c cX12_lay none 9 RX12 wsX12_lay E (zD Z) vwCl 24 (za Z) (tysM Z)) {res : Unit × SG}   : ∀ (n : Nat) (σ : SG) (l1 : Int32) (l2 : Int32) (l3 : Int32) (l4 : Int32) , m_X12_lay_5    n σ l1 l2 l3 l4 = some res → ∀ (H : Heap) (locs : List Loc), ws_P (zD Z) vwCl 24 (za Z) (tM Z) σ H → va_S (ws_A 24 (za Z)) s.heap H locs → ∀ (ls : Array Slot), lv_has ls 9 [(0, .ref (za Z 0)), (1, .int l1), (2, .int l2), (3, .int l3), (4, .int l4)] → W p l e rm_X12_lay s m args below meth c H locs 0 0 (MQ below (xQv E (zD Z) vwCl 24 (za Z) (tM Z) (tysM Z) res) args s 0 0 (ws_A 24 (za Z))) (F0 m 5 ls []) := by
  have C0 := C
  obtain ⟨hx, hb, hr, hlocks, hml, hown, hts, hE, hJ, hK⟩ := C0
  intro n
  induction n with
  | zero =>
    intro σ l1 l2 l3 l4  h
    cases h
  | succ n ih =>
    intro σ l1 l2 l3 l4  h H locs hP hS ls hl
    have hc5 : ∀ (σ : SG) (l1 : Int32) (l2 : Int32) (l3 : Int32) (l4 : Int32) , m_X12_lay_5    n σ l1 l2 l3 l4 = some res → ∀ (H : Heap) (locs : List Loc), ws_P (zD Z) vwCl 24 (za Z) (tM Z) σ H → va_S (ws_A 24 (za Z)) s.heap H locs → ∀ (ls : Array Slot), lv_has ls 9 [(0, .ref (za Z 0)), (1, .int l1), (2, .int l2), (3, .int l3), (4, .int l4)] → W p l e rm_X12_lay s m args below meth c H locs 0 0 (MQ below (xQv E (zD Z) vwCl 24 (za Z) (tM Z) (tysM Z) res) args s 0 0 (ws_A 24 (za Z))) (F0 m 5 ls []) := ih
    have h : m_X12_lay_5_s    (m_X12_lay_5    n) σ l1 l2 l3 l4 = some res := h
    unfold m_X12_lay_5_s at h
    refine lv_iload hx hb dX12_lay_5 (lv_at hl 4 rfl) ?_
    refine lv_aload_n hx hb dX12_lay_7 rfl (lv_at hl 0 rfl) ?_
    refine wr_get (C := RX12) (T := TX12) (N := 41) hx hb hts (in_X12_lay_X12) hown hK hP (k := 0) (by decide) ((tM_0 Z) _ _ _) rfl 3 (by decide) (hts (.fieldLink RX12 18 "TuneSearchModel" "size" "[I") (by decide +kernel)) (fun _ h9 => h9) rfl dX12_lay_8 ?_
    refine lv_iload_n hx hb dX12_lay_11 rfl (lv_at hl 1 rfl) ?_
    obtain ⟨b1, h⟩ := gB_e h
    refine wr_iald hx hb hK hP (k := 3) (by decide) 0 ((tM_3 Z) _ _ _) rfl b1 dX12_lay_12 ?_
    refine lv_icmp_ge (tgt := 223) hx hb dX12_lay_13 (by decide) (fun q2 => ?_) (fun q2 => ?_)
    · have h := if_p h q2
      exact xr_vret hx hb hr hlocks hE hJ hK hP hS h dX12_lay_223
    · have h := if_n h q2
      refine lv_aload_n hx hb dX12_lay_16 rfl (lv_at hl 0 rfl) ?_
      refine wr_get (C := RX12) (T := TX12) (N := 41) hx hb hts (in_X12_lay_X12) hown hK hP (k := 0) (by decide) ((tM_0 Z) _ _ _) rfl 1 (by decide) (hts (.fieldLink RX12 11 "TuneSearchModel" "pitch" "[I") (by decide +kernel)) (fun _ h9 => h9) rfl dX12_lay_17 ?_
      refine lv_bipush (v := 24) hx hb dX12_lay_20 (by decide) ?_
      refine lv_iload_n hx hb dX12_lay_22 rfl (lv_at hl 1 rfl) ?_
      refine lv_imul hx hb dX12_lay_23 ?_
      refine lv_iload hx hb dX12_lay_24 (lv_at hl 4 rfl) ?_
      refine lv_iadd hx hb dX12_lay_26 ?_
      obtain ⟨b3, h⟩ := gB_e h
      refine wr_iald hx hb hK hP (k := 1) (by decide) 0 ((tM_1 Z) _ _ _) rfl b3 dX12_lay_27 ?_
      refine lv_topi (fun v4 e5 => ?_)
      have h := lS_u h e5
      refine lv_istore (lv' := [(5, .int v4), (0, .ref (za Z 0)), (1, .int l1), (2, .int l2), (3, .int l3), (4, .int l4)]) hx hb dX12_lay_28 hl (by decide) rfl (fun ls hl => ?_)
      refine lv_aload_n hx hb dX12_lay_30 rfl (lv_at hl 1 rfl) ?_
      refine wr_get (C := RX12) (T := TX12) (N := 41) hx hb hts (in_X12_lay_X12) hown hK hP (k := 0) (by decide) ((tM_0 Z) _ _ _) rfl 32 (by decide) (hts (.fieldLink RX12 65 "TuneSearchModel" "leftA" "[I") (by decide +kernel)) (fun _ h9 => h9) rfl dX12_lay_31 ?_
      refine lv_iload hx hb dX12_lay_34 (lv_at hl 5 rfl) ?_
      refine lv_iload hx hb dX12_lay_36 (lv_at hl 0 rfl) ?_
      refine lv_if_ge (tgt := 45) hx hb dX12_lay_38 (by decide) (fun q6 => ?_) (fun q6 => ?_)
      · have h := if_p h q6
        refine lv_aload_n hx hb dX12_lay_45 rfl (lv_at hl 1 rfl) ?_
        refine wr_get (C := RX12) (T := TX12) (N := 41) hx hb hts (in_X12_lay_X12) hown hK hP (k := 0) (by decide) ((tM_0 Z) _ _ _) rfl 2 (by decide) (hts (.fieldLink RX12 15 "TuneSearchModel" "length" "[I") (by decide +kernel)) (fun _ h9 => h9) rfl dX12_lay_46 ?_
        refine lv_bipush (v := 24) hx hb dX12_lay_49 (by decide) ?_
        refine lv_iload_n hx hb dX12_lay_51 rfl (lv_at hl 2 rfl) ?_
        refine lv_imul hx hb dX12_lay_52 ?_
        refine lv_iload hx hb dX12_lay_53 (lv_at hl 5 rfl) ?_
        refine lv_iadd hx hb dX12_lay_55 ?_
        obtain ⟨b7, h⟩ := gB_e h
        refine wr_iald hx hb hK hP (k := 2) (by decide) 0 ((tM_2 Z) _ _ _) rfl b7 dX12_lay_56 ?_
        exact kb_X12_lay_57 Z    C  hc5 σ l1 l2 l3 l4 v4 (σ.1 2 ((24 * l1) + l4).toNatClampNeg) l4 h H locs hP hS ls (lv_sub hl [1, 2, 3, 4, 5, 0] rfl)
      · have h := if_n h q6
        refine lv_iconst (v := 0) hx hb dX12_lay_41 (by decide) ?_
        refine lv_goto (tgt := 57) hx hb dX12_lay_42 (by decide) ?_
        exact kb_X12_lay_57 Z    C  hc5 σ l1 l2 l3 l4 v4 0 l4 h H locs hP hS ls (lv_sub hl [1, 2, 3, 4, 5, 0] rfl)
def m_X12_lay_0    (σ : SG) (p0 : Int32) (p1 : Int32) : Option (Unit × SG) :=
  m_X12_lay_5    FV σ p0 p1 0 0
set_option maxHeartbeats 4000000 in
set_option maxRecDepth 100000 in
theorem kb_X12_lay_0 {p : Program} {l : Launch} {e : Env} {s : State} {m : MethodId} {args : Array Value} {below : List Frame} {meth : Method} {c : Code} {E : EF} (Z : ZT)    (C : cy p s m args meth c cX12_lay none 9 RX12 wsX12_lay E (zD Z) vwCl 24 (za Z) (tysM Z)) {res : Unit × SG}   : ∀ (σ : SG) (p0 : Int32) (p1 : Int32) , m_X12_lay_0    σ p0 p1 = some res → ∀ (H : Heap) (locs : List Loc), ws_P (zD Z) vwCl 24 (za Z) (tM Z) σ H → va_S (ws_A 24 (za Z)) s.heap H locs → ∀ (ls : Array Slot), lv_has ls 9 [(0, .ref (za Z 0)), (1, .int p0), (2, .int p1)] → W p l e rm_X12_lay s m args below meth c H locs 0 0 (MQ below (xQv E (zD Z) vwCl 24 (za Z) (tM Z) (tysM Z) res) args s 0 0 (ws_A 24 (za Z))) (F0 m 0 ls []) := by
  have C0 := C
  obtain ⟨hx, hb, hr, hlocks, hml, hown, hts, hE, hJ, hK⟩ := C0
  intro σ p0 p1  h H locs hP hS ls hl
  unfold m_X12_lay_0 at h
  refine lv_iconst (v := 0) hx hb dX12_lay_0 (by decide) ?_
  refine lv_istore_n (lv' := [(3, .int 0), (0, .ref (za Z 0)), (1, .int p0), (2, .int p1)]) hx hb dX12_lay_1 rfl hl (by decide) rfl (fun ls hl => ?_)
  refine lv_iconst (v := 0) hx hb dX12_lay_2 (by decide) ?_
  refine lv_istore (lv' := [(4, .int 0), (3, .int 0), (0, .ref (za Z 0)), (1, .int p0), (2, .int p1)]) hx hb dX12_lay_3 hl (by decide) rfl (fun ls hl => ?_)
  exact kb_X12_lay_5 Z    C   FV σ p0 p1 0 0 h H locs hP hS ls (lv_sub hl [2, 3, 4, 1, 0] rfl)
def m_X12_lay   (σ : SG) (p0 : Int32) (p1 : Int32) : Option (Unit × SG) := m_X12_lay_0   σ p0 p1
set_option maxHeartbeats 4000000 in
set_option maxRecDepth 100000 in
theorem k_X12_lay (l : Launch) {E : EF} (Z : ZT)    (σ : SG) (p0 : Int32) (p1 : Int32) {res : Unit × SG} (h : m_X12_lay   σ p0 p1 = some res) : Met l yX12_lay wsX12_lay rm_X12_lay (va_Pc [.ref (za Z 0), .int p0, .int p1] (wx E (zD Z) vwCl 24 (za Z) (tM Z) (tysM Z) σ)) (xQv E (zD Z) vwCl 24 (za Z) (tM Z) (tysM Z) res) 0 0 (ws_A 24 (za Z)) := by
  refine Met.ofW (cc := cX12_lay) (maxL := 9) (ret := none) (by decide) rfl ?_
  intro p e s m args below meth c s₁ B hml hv
  obtain ⟨rfl, hE, hJ, hP, hK⟩ := hv
  have hl := lv_entry ([.ref (za Z 0), .int p0, .int p1]) (n := 9) (Nat.le_of_ble_eq_true rfl)
  rw [lg_entry_eq]
  generalize (lg_sl ([.ref (za Z 0), .int p0, .int p1]) ++ List.replicate (9 - (lg_sl ([.ref (za Z 0), .int p0, .int p1])).length) Slot.unset).toArray = ls at hl ⊢
  exact kb_X12_lay_0 Z    ⟨B.exec, B.bytes, B.returns, B.notSynchronized, hml, findClass_of_methodNamed B.named, atoms_spec (ws := wsX12_lay) B.pre, hE, hJ, hK⟩ σ p0 p1 h s.heap [] hP va_S.rf ls hl
/-! TuneSearchModel.reachAll(II)V -/
abbrev rm_X12_reachAll : Room := { frames := 0, cells := 0, slots := 0, locals := 0 }
theorem in_X12_reachAll_X12 : ∀ w ∈ wsX120, w ∈ wsX12_reachAll := by decide +kernel
def m_X12_reachAll_328   (c77 : SG → Int32 → Int32 → Int32 → Option (Unit × SG)) (c86 : SG → Int32 → Int32 → Int32 → Int32 → Option (Unit × SG)) (c100 : SG → Int32 → Int32 → Int32 → Int32 → Int32 → Option (Unit × SG)) (σ : SG) (l1 : Int32) (l2 : Int32) (l3 : Int32) (l4 : Int32) (l5 : Int32) : Option (Unit × SG) :=
  lS (l5 + 1) (fun v61 => c100 σ l1 l2 l3 l4 v61)
set_option maxHeartbeats 4000000 in
set_option maxRecDepth 100000 in
theorem kb_X12_reachAll_328 {p : Program} {l : Launch} {e : Env} {s : State} {m : MethodId} {args : Array Value} {below : List Frame} {meth : Method} {c : Code} {E : EF} (Z : ZT)    (C : cy p s m args meth c cX12_reachAll none 9 RX12 wsX12_reachAll E (zD Z) vwCl 24 (za Z) (tysM Z)) {res : Unit × SG} {c77 : SG → Int32 → Int32 → Int32 → Option (Unit × SG)} {c86 : SG → Int32 → Int32 → Int32 → Int32 → Option (Unit × SG)} {c100 : SG → Int32 → Int32 → Int32 → Int32 → Int32 → Option (Unit × SG)} (hc77 : ∀ (σ : SG) (l1 : Int32) (l2 : Int32) (l3 : Int32) , c77 σ l1 l2 l3 = some res → ∀ (H : Heap) (locs : List Loc), ws_P (zD Z) vwCl 24 (za Z) (tM Z) σ H → va_S (ws_A 24 (za Z)) s.heap H locs → ∀ (ls : Array Slot), lv_has ls 9 [(0, .ref (za Z 0)), (1, .int l1), (2, .int l2), (3, .int l3)] → W p l e rm_X12_reachAll s m args below meth c H locs 0 0 (MQ below (xQv E (zD Z) vwCl 24 (za Z) (tM Z) (tysM Z) res) args s 0 0 (ws_A 24 (za Z))) (F0 m 77 ls [])) (hc86 : ∀ (σ : SG) (l1 : Int32) (l2 : Int32) (l3 : Int32) (l4 : Int32) , c86 σ l1 l2 l3 l4 = some res → ∀ (H : Heap) (locs : List Loc), ws_P (zD Z) vwCl 24 (za Z) (tM Z) σ H → va_S (ws_A 24 (za Z)) s.heap H locs → ∀ (ls : Array Slot), lv_has ls 9 [(0, .ref (za Z 0)), (1, .int l1), (2, .int l2), (3, .int l3), (4, .int l4)] → W p l e rm_X12_reachAll s m args below meth c H locs 0 0 (MQ below (xQv E (zD Z) vwCl 24 (za Z) (tM Z) (tysM Z) res) args s 0 0 (ws_A 24 (za Z))) (F0 m 86 ls [])) (hc100 : ∀ (σ : SG) (l1 : Int32) (l2 : Int32) (l3 : Int32) (l4 : Int32) (l5 : Int32) , c100 σ l1 l2 l3 l4 l5 = some res → ∀ (H : Heap) (locs : List Loc), ws_P (zD Z) vwCl 24 (za Z) (tM Z) σ H → va_S (ws_A 24 (za Z)) s.heap H locs → ∀ (ls : Array Slot), lv_has ls 9 [(0, .ref (za Z 0)), (1, .int l1), (2, .int l2), (3, .int l3), (4, .int l4), (5, .int l5)] → W p l e rm_X12_reachAll s m args below meth c H locs 0 0 (MQ below (xQv E (zD Z) vwCl 24 (za Z) (tM Z) (tysM Z) res) args s 0 0 (ws_A 24 (za Z))) (F0 m 100 ls [])) : ∀ (σ : SG) (l1 : Int32) (l2 : Int32) (l3 : Int32) (l4 : Int32) (l5 : Int32) , m_X12_reachAll_328   c77 c86 c100 σ l1 l2 l3 l4 l5 = some res → ∀ (H : Heap) (locs : List Loc), ws_P (zD Z) vwCl 24 (za Z) (tM Z) σ H → va_S (ws_A 24 (za Z)) s.heap H locs → ∀ (ls : Array Slot), lv_has ls 9 [(0, .ref (za Z 0)), (1, .int l1), (2, .int l2), (3, .int l3), (4, .int l4), (5, .int l5)] → W p l e rm_X12_reachAll s m args below meth c H locs 0 0 (MQ below (xQv E (zD Z) vwCl 24 (za Z) (tM Z) (tysM Z) res) args s 0 0 (ws_A 24 (za Z))) (F0 m 328 ls []) := by
  have C0 := C
  obtain ⟨hx, hb, hr, hlocks, hml, hown, hts, hE, hJ, hK⟩ := C0
  intro σ l1 l2 l3 l4 l5  h H locs hP hS ls hl
  unfold m_X12_reachAll_328 at h
  obtain ⟨v61, e62, h⟩ := lS_e h
  refine lv_iinc (v := v61) (lv' := [(5, .int v61), (0, .ref (za Z 0)), (1, .int l1), (2, .int l2), (3, .int l3), (4, .int l4)]) hx hb dX12_reachAll_328 hl (k := 5) rfl (by rw [e62]; rfl) (by decide) rfl (fun ls hl => ?_)
  refine lv_goto (tgt := 100) hx hb dX12_reachAll_331 (by decide) ?_
  exact hc100 σ l1 l2 l3 l4 v61 h H locs hP hS ls (lv_sub hl [1, 2, 3, 4, 5, 0] rfl)
def m_X12_reachAll_240   (c77 : SG → Int32 → Int32 → Int32 → Option (Unit × SG)) (c86 : SG → Int32 → Int32 → Int32 → Int32 → Option (Unit × SG)) (c100 : SG → Int32 → Int32 → Int32 → Int32 → Int32 → Option (Unit × SG)) (σ : SG) (l1 : Int32) (l2 : Int32) (l3 : Int32) (l4 : Int32) (l5 : Int32) (l7 : Int64) : Option (Unit × SG) :=
  gB (inB ((24 * l4) + l5) 576) (if (σ.1 19 ((24 * l4) + l5).toNatClampNeg) ≤ 0 then (m_X12_reachAll_328   c77 c86 c100 σ l1 l2 l3 l4 l5) else (gB (inB (24 + l5) 48) (if 0 ≤ (lg_cmp (σ.2.1 21 (24 + l5).toNatClampNeg) 2305843009213693951) then (m_X12_reachAll_328   c77 c86 c100 σ l1 l2 l3 l4 l5) else (gB (inB (24 + l5) 48) (gB (inB l4 48) (if 0 ≤ (lg_cmp ((σ.2.1 21 (24 + l5).toNatClampNeg) - l7) (σ.2.1 21 l4.toNatClampNeg)) then (m_X12_reachAll_328   c77 c86 c100 σ l1 l2 l3 l4 l5) else (gB (inB (24 + l5) 48) (gB (inB l4 48) (lS (sJ σ 21 l4.toNatClampNeg ((σ.2.1 21 (24 + l5).toNatClampNeg) - l7)) (fun σ56 => gB (inB l4 48) (lS (sI σ56 22 l4.toNatClampNeg l5) (fun σ59 => m_X12_reachAll_328   c77 c86 c100 σ59 l1 l2 1 l4 l5))))))))))))
set_option maxHeartbeats 4000000 in
set_option maxRecDepth 100000 in
theorem kb_X12_reachAll_240 {p : Program} {l : Launch} {e : Env} {s : State} {m : MethodId} {args : Array Value} {below : List Frame} {meth : Method} {c : Code} {E : EF} (Z : ZT)    (C : cy p s m args meth c cX12_reachAll none 9 RX12 wsX12_reachAll E (zD Z) vwCl 24 (za Z) (tysM Z)) {res : Unit × SG} {c77 : SG → Int32 → Int32 → Int32 → Option (Unit × SG)} {c86 : SG → Int32 → Int32 → Int32 → Int32 → Option (Unit × SG)} {c100 : SG → Int32 → Int32 → Int32 → Int32 → Int32 → Option (Unit × SG)} (hc77 : ∀ (σ : SG) (l1 : Int32) (l2 : Int32) (l3 : Int32) , c77 σ l1 l2 l3 = some res → ∀ (H : Heap) (locs : List Loc), ws_P (zD Z) vwCl 24 (za Z) (tM Z) σ H → va_S (ws_A 24 (za Z)) s.heap H locs → ∀ (ls : Array Slot), lv_has ls 9 [(0, .ref (za Z 0)), (1, .int l1), (2, .int l2), (3, .int l3)] → W p l e rm_X12_reachAll s m args below meth c H locs 0 0 (MQ below (xQv E (zD Z) vwCl 24 (za Z) (tM Z) (tysM Z) res) args s 0 0 (ws_A 24 (za Z))) (F0 m 77 ls [])) (hc86 : ∀ (σ : SG) (l1 : Int32) (l2 : Int32) (l3 : Int32) (l4 : Int32) , c86 σ l1 l2 l3 l4 = some res → ∀ (H : Heap) (locs : List Loc), ws_P (zD Z) vwCl 24 (za Z) (tM Z) σ H → va_S (ws_A 24 (za Z)) s.heap H locs → ∀ (ls : Array Slot), lv_has ls 9 [(0, .ref (za Z 0)), (1, .int l1), (2, .int l2), (3, .int l3), (4, .int l4)] → W p l e rm_X12_reachAll s m args below meth c H locs 0 0 (MQ below (xQv E (zD Z) vwCl 24 (za Z) (tM Z) (tysM Z) res) args s 0 0 (ws_A 24 (za Z))) (F0 m 86 ls [])) (hc100 : ∀ (σ : SG) (l1 : Int32) (l2 : Int32) (l3 : Int32) (l4 : Int32) (l5 : Int32) , c100 σ l1 l2 l3 l4 l5 = some res → ∀ (H : Heap) (locs : List Loc), ws_P (zD Z) vwCl 24 (za Z) (tM Z) σ H → va_S (ws_A 24 (za Z)) s.heap H locs → ∀ (ls : Array Slot), lv_has ls 9 [(0, .ref (za Z 0)), (1, .int l1), (2, .int l2), (3, .int l3), (4, .int l4), (5, .int l5)] → W p l e rm_X12_reachAll s m args below meth c H locs 0 0 (MQ below (xQv E (zD Z) vwCl 24 (za Z) (tM Z) (tysM Z) res) args s 0 0 (ws_A 24 (za Z))) (F0 m 100 ls [])) : ∀ (σ : SG) (l1 : Int32) (l2 : Int32) (l3 : Int32) (l4 : Int32) (l5 : Int32) (l7 : Int64) , m_X12_reachAll_240   c77 c86 c100 σ l1 l2 l3 l4 l5 l7 = some res → ∀ (H : Heap) (locs : List Loc), ws_P (zD Z) vwCl 24 (za Z) (tM Z) σ H → va_S (ws_A 24 (za Z)) s.heap H locs → ∀ (ls : Array Slot), lv_has ls 9 [(0, .ref (za Z 0)), (1, .int l1), (2, .int l2), (3, .int l3), (4, .int l4), (5, .int l5), (7, .long l7)] → W p l e rm_X12_reachAll s m args below meth c H locs 0 0 (MQ below (xQv E (zD Z) vwCl 24 (za Z) (tM Z) (tysM Z) res) args s 0 0 (ws_A 24 (za Z))) (F0 m 240 ls []) := by
  have C0 := C
  obtain ⟨hx, hb, hr, hlocks, hml, hown, hts, hE, hJ, hK⟩ := C0
  intro σ l1 l2 l3 l4 l5 l7  h H locs hP hS ls hl
  unfold m_X12_reachAll_240 at h
  refine lv_aload_n hx hb dX12_reachAll_240 rfl (lv_at hl 0 rfl) ?_
  refine wr_get (C := RX12) (T := TX12) (N := 41) hx hb hts (in_X12_reachAll_X12) hown hK hP (k := 0) (by decide) ((tM_0 Z) _ _ _) rfl 34 (by decide) (hts (.fieldLink RX12 71 "TuneSearchModel" "goes" "[I") (by decide +kernel)) (fun _ h9 => h9) rfl dX12_reachAll_241 ?_
  refine lv_bipush (v := 24) hx hb dX12_reachAll_244 (by decide) ?_
  refine lv_iload hx hb dX12_reachAll_246 (lv_at hl 4 rfl) ?_
  refine lv_imul hx hb dX12_reachAll_248 ?_
  refine lv_iload hx hb dX12_reachAll_249 (lv_at hl 5 rfl) ?_
  refine lv_iadd hx hb dX12_reachAll_251 ?_
  obtain ⟨b47, h⟩ := gB_e h
  refine wr_iald hx hb hK hP (k := 19) (by decide) 0 ((tM_19 Z) _ _ _) rfl b47 dX12_reachAll_252 ?_
  refine lv_if_le (tgt := 328) hx hb dX12_reachAll_253 (by decide) (fun q48 => ?_) (fun q48 => ?_)
  · have h := if_p h q48
    exact kb_X12_reachAll_328 Z    C  hc77 hc86 hc100 σ l1 l2 l3 l4 l5 h H locs hP hS ls (lv_sub hl [0, 1, 2, 3, 4, 5] rfl)
  · have h := if_n h q48
    refine lv_aload_n hx hb dX12_reachAll_256 rfl (lv_at hl 0 rfl) ?_
    refine wr_get (C := RX12) (T := TX12) (N := 41) hx hb hts (in_X12_reachAll_X12) hown hK hP (k := 0) (by decide) ((tM_0 Z) _ _ _) rfl 36 (by decide) (hts (.fieldLink RX12 78 "TuneSearchModel" "reach" "[J") (by decide +kernel)) (fun _ h9 => h9) rfl dX12_reachAll_257 ?_
    refine lv_bipush (v := 24) hx hb dX12_reachAll_260 (by decide) ?_
    refine lv_iload hx hb dX12_reachAll_262 (lv_at hl 5 rfl) ?_
    refine lv_iadd hx hb dX12_reachAll_264 ?_
    obtain ⟨b49, h⟩ := gB_e h
    refine wr_lald hx hb hK hP (k := 21) (by decide) 1 ((tM_21 Z) _ _ _) rfl b49 dX12_reachAll_265 ?_
    refine lv_ldc2 (v := 2305843009213693951) hx hb hown (hts (.constantLong RX12 245 2305843009213693951) (by decide +kernel)) dX12_reachAll_266 ?_
    refine W.lcmp hx hb dX12_reachAll_269 ?_
    refine lv_if_ge (tgt := 328) hx hb dX12_reachAll_270 (by decide) (fun q50 => ?_) (fun q50 => ?_)
    · have h := if_p h q50
      exact kb_X12_reachAll_328 Z    C  hc77 hc86 hc100 σ l1 l2 l3 l4 l5 h H locs hP hS ls (lv_sub hl [0, 1, 2, 3, 4, 5] rfl)
    · have h := if_n h q50
      refine lv_aload_n hx hb dX12_reachAll_273 rfl (lv_at hl 0 rfl) ?_
      refine wr_get (C := RX12) (T := TX12) (N := 41) hx hb hts (in_X12_reachAll_X12) hown hK hP (k := 0) (by decide) ((tM_0 Z) _ _ _) rfl 36 (by decide) (hts (.fieldLink RX12 78 "TuneSearchModel" "reach" "[J") (by decide +kernel)) (fun _ h9 => h9) rfl dX12_reachAll_274 ?_
      refine lv_bipush (v := 24) hx hb dX12_reachAll_277 (by decide) ?_
      refine lv_iload hx hb dX12_reachAll_279 (lv_at hl 5 rfl) ?_
      refine lv_iadd hx hb dX12_reachAll_281 ?_
      obtain ⟨b51, h⟩ := gB_e h
      refine wr_lald hx hb hK hP (k := 21) (by decide) 1 ((tM_21 Z) _ _ _) rfl b51 dX12_reachAll_282 ?_
      refine lv_lload hx hb dX12_reachAll_283 (lv_at hl 6 rfl) ?_
      refine lv_lsub hx hb dX12_reachAll_285 ?_
      refine lv_aload_n hx hb dX12_reachAll_286 rfl (lv_at hl 0 rfl) ?_
      refine wr_get (C := RX12) (T := TX12) (N := 41) hx hb hts (in_X12_reachAll_X12) hown hK hP (k := 0) (by decide) ((tM_0 Z) _ _ _) rfl 36 (by decide) (hts (.fieldLink RX12 78 "TuneSearchModel" "reach" "[J") (by decide +kernel)) (fun _ h9 => h9) rfl dX12_reachAll_287 ?_
      refine lv_iload hx hb dX12_reachAll_290 (lv_at hl 4 rfl) ?_
      obtain ⟨b52, h⟩ := gB_e h
      refine wr_lald hx hb hK hP (k := 21) (by decide) 1 ((tM_21 Z) _ _ _) rfl b52 dX12_reachAll_292 ?_
      refine W.lcmp hx hb dX12_reachAll_293 ?_
      refine lv_if_ge (tgt := 328) hx hb dX12_reachAll_294 (by decide) (fun q53 => ?_) (fun q53 => ?_)
      · have h := if_p h q53
        exact kb_X12_reachAll_328 Z    C  hc77 hc86 hc100 σ l1 l2 l3 l4 l5 h H locs hP hS ls (lv_sub hl [0, 1, 2, 3, 4, 5] rfl)
      · have h := if_n h q53
        refine lv_aload_n hx hb dX12_reachAll_297 rfl (lv_at hl 0 rfl) ?_
        refine wr_get (C := RX12) (T := TX12) (N := 41) hx hb hts (in_X12_reachAll_X12) hown hK hP (k := 0) (by decide) ((tM_0 Z) _ _ _) rfl 36 (by decide) (hts (.fieldLink RX12 78 "TuneSearchModel" "reach" "[J") (by decide +kernel)) (fun _ h9 => h9) rfl dX12_reachAll_298 ?_
        refine lv_iload hx hb dX12_reachAll_301 (lv_at hl 4 rfl) ?_
        refine lv_aload_n hx hb dX12_reachAll_303 rfl (lv_at hl 0 rfl) ?_
        refine wr_get (C := RX12) (T := TX12) (N := 41) hx hb hts (in_X12_reachAll_X12) hown hK hP (k := 0) (by decide) ((tM_0 Z) _ _ _) rfl 36 (by decide) (hts (.fieldLink RX12 78 "TuneSearchModel" "reach" "[J") (by decide +kernel)) (fun _ h9 => h9) rfl dX12_reachAll_304 ?_
        refine lv_bipush (v := 24) hx hb dX12_reachAll_307 (by decide) ?_
        refine lv_iload hx hb dX12_reachAll_309 (lv_at hl 5 rfl) ?_
        refine lv_iadd hx hb dX12_reachAll_311 ?_
        obtain ⟨b54, h⟩ := gB_e h
        refine wr_lald hx hb hK hP (k := 21) (by decide) 1 ((tM_21 Z) _ _ _) rfl b54 dX12_reachAll_312 ?_
        refine lv_lload hx hb dX12_reachAll_313 (lv_at hl 6 rfl) ?_
        refine lv_lsub hx hb dX12_reachAll_315 ?_
        obtain ⟨b55, h⟩ := gB_e h
        refine wr_last hx hb hK hP hJ hS (k := 21) (by decide) 1 (tM_21 Z) rfl b55 dX12_reachAll_316 (fun H locs hP hS => ?_)
        obtain ⟨σ56, e57, h⟩ := lS_e h
        rw [← e57] at hP
        refine lv_aload_n hx hb dX12_reachAll_317 rfl (lv_at hl 0 rfl) ?_
        refine wr_get (C := RX12) (T := TX12) (N := 41) hx hb hts (in_X12_reachAll_X12) hown hK hP (k := 0) (by decide) ((tM_0 Z) _ _ _) rfl 37 (by decide) (hts (.fieldLink RX12 81 "TuneSearchModel" "from" "[I") (by decide +kernel)) (fun _ h9 => h9) rfl dX12_reachAll_318 ?_
        refine lv_iload hx hb dX12_reachAll_321 (lv_at hl 4 rfl) ?_
        refine lv_iload hx hb dX12_reachAll_323 (lv_at hl 5 rfl) ?_
        obtain ⟨b58, h⟩ := gB_e h
        refine wr_iast hx hb hK hP hJ hS (k := 22) (by decide) 0 (tM_22 Z) rfl b58 dX12_reachAll_325 (fun H locs hP hS => ?_)
        obtain ⟨σ59, e60, h⟩ := lS_e h
        rw [← e60] at hP
        refine lv_iconst (v := 1) hx hb dX12_reachAll_326 (by decide) ?_
        refine lv_istore_n (lv' := [(3, .int 1), (0, .ref (za Z 0)), (1, .int l1), (2, .int l2), (4, .int l4), (5, .int l5), (7, .long l7)]) hx hb dX12_reachAll_327 rfl hl (by decide) rfl (fun ls hl => ?_)
        exact kb_X12_reachAll_328 Z    C  hc77 hc86 hc100 σ59 l1 l2 1 l4 l5 h H locs hP hS ls (lv_sub hl [1, 2, 3, 0, 4, 5] rfl)
def m_X12_reachAll_146   (c77 : SG → Int32 → Int32 → Int32 → Option (Unit × SG)) (c86 : SG → Int32 → Int32 → Int32 → Int32 → Option (Unit × SG)) (c100 : SG → Int32 → Int32 → Int32 → Int32 → Int32 → Option (Unit × SG)) (σ : SG) (l1 : Int32) (l2 : Int32) (l3 : Int32) (l4 : Int32) (l5 : Int32) (s0 : Int32) : Option (Unit × SG) :=
  gB (inB ((24 * l4) + l5) 576) (lS (σ.2.1 20 ((24 * l4) + l5).toNatClampNeg) (fun v32 => if s0 = 0 then (m_X12_reachAll_240   c77 c86 c100 σ l1 l2 l3 l4 l5 v32) else (gB (inB l4 48) (if 0 ≤ (lg_cmp (σ.2.1 21 l4.toNatClampNeg) 2305843009213693951) then (m_X12_reachAll_240   c77 c86 c100 σ l1 l2 l3 l4 l5 v32) else (gB (inB l4 48) (gB (inB (24 + l5) 48) (if 0 ≤ (lg_cmp ((σ.2.1 21 l4.toNatClampNeg) + v32) (σ.2.1 21 (24 + l5).toNatClampNeg)) then (m_X12_reachAll_240   c77 c86 c100 σ l1 l2 l3 l4 l5 v32) else (gB (inB l4 48) (gB (inB (24 + l5) 48) (lS (sJ σ 21 (24 + l5).toNatClampNeg ((σ.2.1 21 l4.toNatClampNeg) + v32)) (fun σ42 => gB (inB (24 + l5) 48) (lS (sI σ42 22 (24 + l5).toNatClampNeg l4) (fun σ45 => m_X12_reachAll_240   c77 c86 c100 σ45 l1 l2 1 l4 l5 v32)))))))))))))
set_option maxHeartbeats 4000000 in
set_option maxRecDepth 100000 in
theorem kb_X12_reachAll_146 {p : Program} {l : Launch} {e : Env} {s : State} {m : MethodId} {args : Array Value} {below : List Frame} {meth : Method} {c : Code} {E : EF} (Z : ZT)    (C : cy p s m args meth c cX12_reachAll none 9 RX12 wsX12_reachAll E (zD Z) vwCl 24 (za Z) (tysM Z)) {res : Unit × SG} {c77 : SG → Int32 → Int32 → Int32 → Option (Unit × SG)} {c86 : SG → Int32 → Int32 → Int32 → Int32 → Option (Unit × SG)} {c100 : SG → Int32 → Int32 → Int32 → Int32 → Int32 → Option (Unit × SG)} (hc77 : ∀ (σ : SG) (l1 : Int32) (l2 : Int32) (l3 : Int32) , c77 σ l1 l2 l3 = some res → ∀ (H : Heap) (locs : List Loc), ws_P (zD Z) vwCl 24 (za Z) (tM Z) σ H → va_S (ws_A 24 (za Z)) s.heap H locs → ∀ (ls : Array Slot), lv_has ls 9 [(0, .ref (za Z 0)), (1, .int l1), (2, .int l2), (3, .int l3)] → W p l e rm_X12_reachAll s m args below meth c H locs 0 0 (MQ below (xQv E (zD Z) vwCl 24 (za Z) (tM Z) (tysM Z) res) args s 0 0 (ws_A 24 (za Z))) (F0 m 77 ls [])) (hc86 : ∀ (σ : SG) (l1 : Int32) (l2 : Int32) (l3 : Int32) (l4 : Int32) , c86 σ l1 l2 l3 l4 = some res → ∀ (H : Heap) (locs : List Loc), ws_P (zD Z) vwCl 24 (za Z) (tM Z) σ H → va_S (ws_A 24 (za Z)) s.heap H locs → ∀ (ls : Array Slot), lv_has ls 9 [(0, .ref (za Z 0)), (1, .int l1), (2, .int l2), (3, .int l3), (4, .int l4)] → W p l e rm_X12_reachAll s m args below meth c H locs 0 0 (MQ below (xQv E (zD Z) vwCl 24 (za Z) (tM Z) (tysM Z) res) args s 0 0 (ws_A 24 (za Z))) (F0 m 86 ls [])) (hc100 : ∀ (σ : SG) (l1 : Int32) (l2 : Int32) (l3 : Int32) (l4 : Int32) (l5 : Int32) , c100 σ l1 l2 l3 l4 l5 = some res → ∀ (H : Heap) (locs : List Loc), ws_P (zD Z) vwCl 24 (za Z) (tM Z) σ H → va_S (ws_A 24 (za Z)) s.heap H locs → ∀ (ls : Array Slot), lv_has ls 9 [(0, .ref (za Z 0)), (1, .int l1), (2, .int l2), (3, .int l3), (4, .int l4), (5, .int l5)] → W p l e rm_X12_reachAll s m args below meth c H locs 0 0 (MQ below (xQv E (zD Z) vwCl 24 (za Z) (tM Z) (tysM Z) res) args s 0 0 (ws_A 24 (za Z))) (F0 m 100 ls [])) : ∀ (σ : SG) (l1 : Int32) (l2 : Int32) (l3 : Int32) (l4 : Int32) (l5 : Int32) (s0 : Int32) , m_X12_reachAll_146   c77 c86 c100 σ l1 l2 l3 l4 l5 s0 = some res → ∀ (H : Heap) (locs : List Loc), ws_P (zD Z) vwCl 24 (za Z) (tM Z) σ H → va_S (ws_A 24 (za Z)) s.heap H locs → ∀ (ls : Array Slot), lv_has ls 9 [(0, .ref (za Z 0)), (1, .int l1), (2, .int l2), (3, .int l3), (4, .int l4), (5, .int l5)] → W p l e rm_X12_reachAll s m args below meth c H locs 0 0 (MQ below (xQv E (zD Z) vwCl 24 (za Z) (tM Z) (tysM Z) res) args s 0 0 (ws_A 24 (za Z))) (F0 m 146 ls [.int s0]) := by
  have C0 := C
  obtain ⟨hx, hb, hr, hlocks, hml, hown, hts, hE, hJ, hK⟩ := C0
  intro σ l1 l2 l3 l4 l5 s0  h H locs hP hS ls hl
  unfold m_X12_reachAll_146 at h
  refine lv_istore (lv' := [(6, .int s0), (0, .ref (za Z 0)), (1, .int l1), (2, .int l2), (3, .int l3), (4, .int l4), (5, .int l5)]) hx hb dX12_reachAll_146 hl (by decide) rfl (fun ls hl => ?_)
  refine lv_aload_n hx hb dX12_reachAll_148 rfl (lv_at hl 1 rfl) ?_
  refine wr_get (C := RX12) (T := TX12) (N := 41) hx hb hts (in_X12_reachAll_X12) hown hK hP (k := 0) (by decide) ((tM_0 Z) _ _ _) rfl 35 (by decide) (hts (.fieldLink RX12 74 "TuneSearchModel" "costs" "[J") (by decide +kernel)) (fun _ h9 => h9) rfl dX12_reachAll_149 ?_
  refine lv_bipush (v := 24) hx hb dX12_reachAll_152 (by decide) ?_
  refine lv_iload hx hb dX12_reachAll_154 (lv_at hl 5 rfl) ?_
  refine lv_imul hx hb dX12_reachAll_156 ?_
  refine lv_iload hx hb dX12_reachAll_157 (lv_at hl 6 rfl) ?_
  refine lv_iadd hx hb dX12_reachAll_159 ?_
  obtain ⟨b31, h⟩ := gB_e h
  refine wr_lald hx hb hK hP (k := 20) (by decide) 1 ((tM_20 Z) _ _ _) rfl b31 dX12_reachAll_160 ?_
  refine lv_topl (fun v32 e33 => ?_)
  have h := lS_u h e33
  refine lv_lstore (lv' := [(7, .long v32), (6, .int s0), (0, .ref (za Z 0)), (1, .int l1), (2, .int l2), (3, .int l3), (4, .int l4), (5, .int l5)]) hx hb dX12_reachAll_161 hl (by decide) rfl (fun ls hl => ?_)
  refine lv_iload hx hb dX12_reachAll_163 (lv_at hl 1 rfl) ?_
  refine lv_if_eq (tgt := 240) hx hb dX12_reachAll_165 (by decide) (fun q34 => ?_) (fun q34 => ?_)
  · have h := if_p h q34
    exact kb_X12_reachAll_240 Z    C  hc77 hc86 hc100 σ l1 l2 l3 l4 l5 v32 h H locs hP hS ls (lv_sub hl [2, 3, 4, 5, 6, 7, 0] rfl)
  · have h := if_n h q34
    refine lv_aload_n hx hb dX12_reachAll_168 rfl (lv_at hl 2 rfl) ?_
    refine wr_get (C := RX12) (T := TX12) (N := 41) hx hb hts (in_X12_reachAll_X12) hown hK hP (k := 0) (by decide) ((tM_0 Z) _ _ _) rfl 36 (by decide) (hts (.fieldLink RX12 78 "TuneSearchModel" "reach" "[J") (by decide +kernel)) (fun _ h9 => h9) rfl dX12_reachAll_169 ?_
    refine lv_iload hx hb dX12_reachAll_172 (lv_at hl 6 rfl) ?_
    obtain ⟨b35, h⟩ := gB_e h
    refine wr_lald hx hb hK hP (k := 21) (by decide) 1 ((tM_21 Z) _ _ _) rfl b35 dX12_reachAll_174 ?_
    refine lv_ldc2 (v := 2305843009213693951) hx hb hown (hts (.constantLong RX12 245 2305843009213693951) (by decide +kernel)) dX12_reachAll_175 ?_
    refine W.lcmp hx hb dX12_reachAll_178 ?_
    refine lv_if_ge (tgt := 240) hx hb dX12_reachAll_179 (by decide) (fun q36 => ?_) (fun q36 => ?_)
    · have h := if_p h q36
      exact kb_X12_reachAll_240 Z    C  hc77 hc86 hc100 σ l1 l2 l3 l4 l5 v32 h H locs hP hS ls (lv_sub hl [2, 3, 4, 5, 6, 7, 0] rfl)
    · have h := if_n h q36
      refine lv_aload_n hx hb dX12_reachAll_182 rfl (lv_at hl 2 rfl) ?_
      refine wr_get (C := RX12) (T := TX12) (N := 41) hx hb hts (in_X12_reachAll_X12) hown hK hP (k := 0) (by decide) ((tM_0 Z) _ _ _) rfl 36 (by decide) (hts (.fieldLink RX12 78 "TuneSearchModel" "reach" "[J") (by decide +kernel)) (fun _ h9 => h9) rfl dX12_reachAll_183 ?_
      refine lv_iload hx hb dX12_reachAll_186 (lv_at hl 6 rfl) ?_
      obtain ⟨b37, h⟩ := gB_e h
      refine wr_lald hx hb hK hP (k := 21) (by decide) 1 ((tM_21 Z) _ _ _) rfl b37 dX12_reachAll_188 ?_
      refine lv_lload hx hb dX12_reachAll_189 (lv_at hl 0 rfl) ?_
      refine lv_ladd hx hb dX12_reachAll_191 ?_
      refine lv_aload_n hx hb dX12_reachAll_192 rfl (lv_at hl 2 rfl) ?_
      refine wr_get (C := RX12) (T := TX12) (N := 41) hx hb hts (in_X12_reachAll_X12) hown hK hP (k := 0) (by decide) ((tM_0 Z) _ _ _) rfl 36 (by decide) (hts (.fieldLink RX12 78 "TuneSearchModel" "reach" "[J") (by decide +kernel)) (fun _ h9 => h9) rfl dX12_reachAll_193 ?_
      refine lv_bipush (v := 24) hx hb dX12_reachAll_196 (by decide) ?_
      refine lv_iload hx hb dX12_reachAll_198 (lv_at hl 7 rfl) ?_
      refine lv_iadd hx hb dX12_reachAll_200 ?_
      obtain ⟨b38, h⟩ := gB_e h
      refine wr_lald hx hb hK hP (k := 21) (by decide) 1 ((tM_21 Z) _ _ _) rfl b38 dX12_reachAll_201 ?_
      refine W.lcmp hx hb dX12_reachAll_202 ?_
      refine lv_if_ge (tgt := 240) hx hb dX12_reachAll_203 (by decide) (fun q39 => ?_) (fun q39 => ?_)
      · have h := if_p h q39
        exact kb_X12_reachAll_240 Z    C  hc77 hc86 hc100 σ l1 l2 l3 l4 l5 v32 h H locs hP hS ls (lv_sub hl [2, 3, 4, 5, 6, 7, 0] rfl)
      · have h := if_n h q39
        refine lv_aload_n hx hb dX12_reachAll_206 rfl (lv_at hl 2 rfl) ?_
        refine wr_get (C := RX12) (T := TX12) (N := 41) hx hb hts (in_X12_reachAll_X12) hown hK hP (k := 0) (by decide) ((tM_0 Z) _ _ _) rfl 36 (by decide) (hts (.fieldLink RX12 78 "TuneSearchModel" "reach" "[J") (by decide +kernel)) (fun _ h9 => h9) rfl dX12_reachAll_207 ?_
        refine lv_bipush (v := 24) hx hb dX12_reachAll_210 (by decide) ?_
        refine lv_iload hx hb dX12_reachAll_212 (lv_at hl 7 rfl) ?_
        refine lv_iadd hx hb dX12_reachAll_214 ?_
        refine lv_aload_n hx hb dX12_reachAll_215 rfl (lv_at hl 2 rfl) ?_
        refine wr_get (C := RX12) (T := TX12) (N := 41) hx hb hts (in_X12_reachAll_X12) hown hK hP (k := 0) (by decide) ((tM_0 Z) _ _ _) rfl 36 (by decide) (hts (.fieldLink RX12 78 "TuneSearchModel" "reach" "[J") (by decide +kernel)) (fun _ h9 => h9) rfl dX12_reachAll_216 ?_
        refine lv_iload hx hb dX12_reachAll_219 (lv_at hl 6 rfl) ?_
        obtain ⟨b40, h⟩ := gB_e h
        refine wr_lald hx hb hK hP (k := 21) (by decide) 1 ((tM_21 Z) _ _ _) rfl b40 dX12_reachAll_221 ?_
        refine lv_lload hx hb dX12_reachAll_222 (lv_at hl 0 rfl) ?_
        refine lv_ladd hx hb dX12_reachAll_224 ?_
        obtain ⟨b41, h⟩ := gB_e h
        refine wr_last hx hb hK hP hJ hS (k := 21) (by decide) 1 (tM_21 Z) rfl b41 dX12_reachAll_225 (fun H locs hP hS => ?_)
        obtain ⟨σ42, e43, h⟩ := lS_e h
        rw [← e43] at hP
        refine lv_aload_n hx hb dX12_reachAll_226 rfl (lv_at hl 2 rfl) ?_
        refine wr_get (C := RX12) (T := TX12) (N := 41) hx hb hts (in_X12_reachAll_X12) hown hK hP (k := 0) (by decide) ((tM_0 Z) _ _ _) rfl 37 (by decide) (hts (.fieldLink RX12 81 "TuneSearchModel" "from" "[I") (by decide +kernel)) (fun _ h9 => h9) rfl dX12_reachAll_227 ?_
        refine lv_bipush (v := 24) hx hb dX12_reachAll_230 (by decide) ?_
        refine lv_iload hx hb dX12_reachAll_232 (lv_at hl 7 rfl) ?_
        refine lv_iadd hx hb dX12_reachAll_234 ?_
        refine lv_iload hx hb dX12_reachAll_235 (lv_at hl 6 rfl) ?_
        obtain ⟨b44, h⟩ := gB_e h
        refine wr_iast hx hb hK hP hJ hS (k := 22) (by decide) 0 (tM_22 Z) rfl b44 dX12_reachAll_237 (fun H locs hP hS => ?_)
        obtain ⟨σ45, e46, h⟩ := lS_e h
        rw [← e46] at hP
        refine lv_iconst (v := 1) hx hb dX12_reachAll_238 (by decide) ?_
        refine lv_istore_n (lv' := [(3, .int 1), (7, .long v32), (6, .int s0), (0, .ref (za Z 0)), (1, .int l1), (2, .int l2), (4, .int l4), (5, .int l5)]) hx hb dX12_reachAll_239 rfl hl (by decide) rfl (fun ls hl => ?_)
        exact kb_X12_reachAll_240 Z    C  hc77 hc86 hc100 σ45 l1 l2 1 l4 l5 v32 h H locs hP hS ls (lv_sub hl [3, 4, 5, 0, 6, 7, 1] rfl)
def m_X12_reachAll_145   (c77 : SG → Int32 → Int32 → Int32 → Option (Unit × SG)) (c86 : SG → Int32 → Int32 → Int32 → Int32 → Option (Unit × SG)) (c100 : SG → Int32 → Int32 → Int32 → Int32 → Int32 → Option (Unit × SG)) (σ : SG) (l1 : Int32) (l2 : Int32) (l3 : Int32) (l4 : Int32) (l5 : Int32) : Option (Unit × SG) :=
  m_X12_reachAll_146   c77 c86 c100 σ l1 l2 l3 l4 l5 0
set_option maxHeartbeats 4000000 in
set_option maxRecDepth 100000 in
theorem kb_X12_reachAll_145 {p : Program} {l : Launch} {e : Env} {s : State} {m : MethodId} {args : Array Value} {below : List Frame} {meth : Method} {c : Code} {E : EF} (Z : ZT)    (C : cy p s m args meth c cX12_reachAll none 9 RX12 wsX12_reachAll E (zD Z) vwCl 24 (za Z) (tysM Z)) {res : Unit × SG} {c77 : SG → Int32 → Int32 → Int32 → Option (Unit × SG)} {c86 : SG → Int32 → Int32 → Int32 → Int32 → Option (Unit × SG)} {c100 : SG → Int32 → Int32 → Int32 → Int32 → Int32 → Option (Unit × SG)} (hc77 : ∀ (σ : SG) (l1 : Int32) (l2 : Int32) (l3 : Int32) , c77 σ l1 l2 l3 = some res → ∀ (H : Heap) (locs : List Loc), ws_P (zD Z) vwCl 24 (za Z) (tM Z) σ H → va_S (ws_A 24 (za Z)) s.heap H locs → ∀ (ls : Array Slot), lv_has ls 9 [(0, .ref (za Z 0)), (1, .int l1), (2, .int l2), (3, .int l3)] → W p l e rm_X12_reachAll s m args below meth c H locs 0 0 (MQ below (xQv E (zD Z) vwCl 24 (za Z) (tM Z) (tysM Z) res) args s 0 0 (ws_A 24 (za Z))) (F0 m 77 ls [])) (hc86 : ∀ (σ : SG) (l1 : Int32) (l2 : Int32) (l3 : Int32) (l4 : Int32) , c86 σ l1 l2 l3 l4 = some res → ∀ (H : Heap) (locs : List Loc), ws_P (zD Z) vwCl 24 (za Z) (tM Z) σ H → va_S (ws_A 24 (za Z)) s.heap H locs → ∀ (ls : Array Slot), lv_has ls 9 [(0, .ref (za Z 0)), (1, .int l1), (2, .int l2), (3, .int l3), (4, .int l4)] → W p l e rm_X12_reachAll s m args below meth c H locs 0 0 (MQ below (xQv E (zD Z) vwCl 24 (za Z) (tM Z) (tysM Z) res) args s 0 0 (ws_A 24 (za Z))) (F0 m 86 ls [])) (hc100 : ∀ (σ : SG) (l1 : Int32) (l2 : Int32) (l3 : Int32) (l4 : Int32) (l5 : Int32) , c100 σ l1 l2 l3 l4 l5 = some res → ∀ (H : Heap) (locs : List Loc), ws_P (zD Z) vwCl 24 (za Z) (tM Z) σ H → va_S (ws_A 24 (za Z)) s.heap H locs → ∀ (ls : Array Slot), lv_has ls 9 [(0, .ref (za Z 0)), (1, .int l1), (2, .int l2), (3, .int l3), (4, .int l4), (5, .int l5)] → W p l e rm_X12_reachAll s m args below meth c H locs 0 0 (MQ below (xQv E (zD Z) vwCl 24 (za Z) (tM Z) (tysM Z) res) args s 0 0 (ws_A 24 (za Z))) (F0 m 100 ls [])) : ∀ (σ : SG) (l1 : Int32) (l2 : Int32) (l3 : Int32) (l4 : Int32) (l5 : Int32) , m_X12_reachAll_145   c77 c86 c100 σ l1 l2 l3 l4 l5 = some res → ∀ (H : Heap) (locs : List Loc), ws_P (zD Z) vwCl 24 (za Z) (tM Z) σ H → va_S (ws_A 24 (za Z)) s.heap H locs → ∀ (ls : Array Slot), lv_has ls 9 [(0, .ref (za Z 0)), (1, .int l1), (2, .int l2), (3, .int l3), (4, .int l4), (5, .int l5)] → W p l e rm_X12_reachAll s m args below meth c H locs 0 0 (MQ below (xQv E (zD Z) vwCl 24 (za Z) (tM Z) (tysM Z) res) args s 0 0 (ws_A 24 (za Z))) (F0 m 145 ls []) := by
  have C0 := C
  obtain ⟨hx, hb, hr, hlocks, hml, hown, hts, hE, hJ, hK⟩ := C0
  intro σ l1 l2 l3 l4 l5  h H locs hP hS ls hl
  unfold m_X12_reachAll_145 at h
  refine lv_iconst (v := 0) hx hb dX12_reachAll_145 (by decide) ?_
  exact kb_X12_reachAll_146 Z    C  hc77 hc86 hc100 σ l1 l2 l3 l4 l5 0 h H locs hP hS ls (lv_sub hl [0, 1, 2, 3, 4, 5] rfl)
def m_X12_reachAll_100_s   (c77 : SG → Int32 → Int32 → Int32 → Option (Unit × SG)) (c86 : SG → Int32 → Int32 → Int32 → Int32 → Option (Unit × SG)) (c100 : SG → Int32 → Int32 → Int32 → Int32 → Int32 → Option (Unit × SG)) (σ : SG) (l1 : Int32) (l2 : Int32) (l3 : Int32) (l4 : Int32) (l5 : Int32) : Option (Unit × SG) :=
  gB (inB l2 9) (if (σ.1 3 l2.toNatClampNeg) ≤ l5 then (lS (l4 + 1) (fun v25 => c86 σ l1 l2 l3 v25)) else (gB (inB ((24 * l1) + l4) 216) (if (σ.1 1 ((24 * l1) + l4).toNatClampNeg) < 0 then (m_X12_reachAll_145   c77 c86 c100 σ l1 l2 l3 l4 l5) else (gB (inB ((24 * l2) + l5) 216) (if (σ.1 1 ((24 * l2) + l5).toNatClampNeg) < 0 then (m_X12_reachAll_145   c77 c86 c100 σ l1 l2 l3 l4 l5) else (m_X12_reachAll_146   c77 c86 c100 σ l1 l2 l3 l4 l5 1))))))
def m_X12_reachAll_100   (c77 : SG → Int32 → Int32 → Int32 → Option (Unit × SG)) (c86 : SG → Int32 → Int32 → Int32 → Int32 → Option (Unit × SG)) : Nat → SG → Int32 → Int32 → Int32 → Int32 → Int32 → Option (Unit × SG)
  | 0, _, _, _, _, _, _ => none
  | n + 1, σ, l1, l2, l3, l4, l5 => m_X12_reachAll_100_s   c77 c86 (m_X12_reachAll_100   c77 c86 n) σ l1 l2 l3 l4 l5
set_option maxHeartbeats 4000000 in
set_option maxRecDepth 100000 in
theorem kb_X12_reachAll_100 {p : Program} {l : Launch} {e : Env} {s : State} {m : MethodId} {args : Array Value} {below : List Frame} {meth : Method} {c : Code} {E : EF} (Z : ZT)    (C : cy p s m args meth c cX12_reachAll none 9 RX12 wsX12_reachAll E (zD Z) vwCl 24 (za Z) (tysM Z)) {res : Unit × SG} {c77 : SG → Int32 → Int32 → Int32 → Option (Unit × SG)} {c86 : SG → Int32 → Int32 → Int32 → Int32 → Option (Unit × SG)} (hc77 : ∀ (σ : SG) (l1 : Int32) (l2 : Int32) (l3 : Int32) , c77 σ l1 l2 l3 = some res → ∀ (H : Heap) (locs : List Loc), ws_P (zD Z) vwCl 24 (za Z) (tM Z) σ H → va_S (ws_A 24 (za Z)) s.heap H locs → ∀ (ls : Array Slot), lv_has ls 9 [(0, .ref (za Z 0)), (1, .int l1), (2, .int l2), (3, .int l3)] → W p l e rm_X12_reachAll s m args below meth c H locs 0 0 (MQ below (xQv E (zD Z) vwCl 24 (za Z) (tM Z) (tysM Z) res) args s 0 0 (ws_A 24 (za Z))) (F0 m 77 ls [])) (hc86 : ∀ (σ : SG) (l1 : Int32) (l2 : Int32) (l3 : Int32) (l4 : Int32) , c86 σ l1 l2 l3 l4 = some res → ∀ (H : Heap) (locs : List Loc), ws_P (zD Z) vwCl 24 (za Z) (tM Z) σ H → va_S (ws_A 24 (za Z)) s.heap H locs → ∀ (ls : Array Slot), lv_has ls 9 [(0, .ref (za Z 0)), (1, .int l1), (2, .int l2), (3, .int l3), (4, .int l4)] → W p l e rm_X12_reachAll s m args below meth c H locs 0 0 (MQ below (xQv E (zD Z) vwCl 24 (za Z) (tM Z) (tysM Z) res) args s 0 0 (ws_A 24 (za Z))) (F0 m 86 ls [])) : ∀ (n : Nat) (σ : SG) (l1 : Int32) (l2 : Int32) (l3 : Int32) (l4 : Int32) (l5 : Int32) , m_X12_reachAll_100   c77 c86 n σ l1 l2 l3 l4 l5 = some res → ∀ (H : Heap) (locs : List Loc), ws_P (zD Z) vwCl 24 (za Z) (tM Z) σ H → va_S (ws_A 24 (za Z)) s.heap H locs → ∀ (ls : Array Slot), lv_has ls 9 [(0, .ref (za Z 0)), (1, .int l1), (2, .int l2), (3, .int l3), (4, .int l4), (5, .int l5)] → W p l e rm_X12_reachAll s m args below meth c H locs 0 0 (MQ below (xQv E (zD Z) vwCl 24 (za Z) (tM Z) (tysM Z) res) args s 0 0 (ws_A 24 (za Z))) (F0 m 100 ls []) := by
  have C0 := C
  obtain ⟨hx, hb, hr, hlocks, hml, hown, hts, hE, hJ, hK⟩ := C0
  intro n
  induction n with
  | zero =>
    intro σ l1 l2 l3 l4 l5  h
    cases h
  | succ n ih =>
    intro σ l1 l2 l3 l4 l5  h H locs hP hS ls hl
    have hc100 : ∀ (σ : SG) (l1 : Int32) (l2 : Int32) (l3 : Int32) (l4 : Int32) (l5 : Int32) , m_X12_reachAll_100   c77 c86 n σ l1 l2 l3 l4 l5 = some res → ∀ (H : Heap) (locs : List Loc), ws_P (zD Z) vwCl 24 (za Z) (tM Z) σ H → va_S (ws_A 24 (za Z)) s.heap H locs → ∀ (ls : Array Slot), lv_has ls 9 [(0, .ref (za Z 0)), (1, .int l1), (2, .int l2), (3, .int l3), (4, .int l4), (5, .int l5)] → W p l e rm_X12_reachAll s m args below meth c H locs 0 0 (MQ below (xQv E (zD Z) vwCl 24 (za Z) (tM Z) (tysM Z) res) args s 0 0 (ws_A 24 (za Z))) (F0 m 100 ls []) := ih
    have h : m_X12_reachAll_100_s   c77 c86 (m_X12_reachAll_100   c77 c86 n) σ l1 l2 l3 l4 l5 = some res := h
    unfold m_X12_reachAll_100_s at h
    refine lv_iload hx hb dX12_reachAll_100 (lv_at hl 5 rfl) ?_
    refine lv_aload_n hx hb dX12_reachAll_102 rfl (lv_at hl 0 rfl) ?_
    refine wr_get (C := RX12) (T := TX12) (N := 41) hx hb hts (in_X12_reachAll_X12) hown hK hP (k := 0) (by decide) ((tM_0 Z) _ _ _) rfl 3 (by decide) (hts (.fieldLink RX12 18 "TuneSearchModel" "size" "[I") (by decide +kernel)) (fun _ h9 => h9) rfl dX12_reachAll_103 ?_
    refine lv_iload_n hx hb dX12_reachAll_106 rfl (lv_at hl 2 rfl) ?_
    obtain ⟨b23, h⟩ := gB_e h
    refine wr_iald hx hb hK hP (k := 3) (by decide) 0 ((tM_3 Z) _ _ _) rfl b23 dX12_reachAll_107 ?_
    refine lv_icmp_ge (tgt := 334) hx hb dX12_reachAll_108 (by decide) (fun q24 => ?_) (fun q24 => ?_)
    · have h := if_p h q24
      obtain ⟨v25, e26, h⟩ := lS_e h
      refine lv_iinc (v := v25) (lv' := [(4, .int v25), (0, .ref (za Z 0)), (1, .int l1), (2, .int l2), (3, .int l3), (5, .int l5)]) hx hb dX12_reachAll_334 hl (k := 4) rfl (by rw [e26]; rfl) (by decide) rfl (fun ls hl => ?_)
      refine lv_goto (tgt := 86) hx hb dX12_reachAll_337 (by decide) ?_
      exact hc86 σ l1 l2 l3 v25 h H locs hP hS ls (lv_sub hl [1, 2, 3, 4, 0] rfl)
    · have h := if_n h q24
      refine lv_aload_n hx hb dX12_reachAll_111 rfl (lv_at hl 0 rfl) ?_
      refine wr_get (C := RX12) (T := TX12) (N := 41) hx hb hts (in_X12_reachAll_X12) hown hK hP (k := 0) (by decide) ((tM_0 Z) _ _ _) rfl 1 (by decide) (hts (.fieldLink RX12 11 "TuneSearchModel" "pitch" "[I") (by decide +kernel)) (fun _ h9 => h9) rfl dX12_reachAll_112 ?_
      refine lv_bipush (v := 24) hx hb dX12_reachAll_115 (by decide) ?_
      refine lv_iload_n hx hb dX12_reachAll_117 rfl (lv_at hl 1 rfl) ?_
      refine lv_imul hx hb dX12_reachAll_118 ?_
      refine lv_iload hx hb dX12_reachAll_119 (lv_at hl 4 rfl) ?_
      refine lv_iadd hx hb dX12_reachAll_121 ?_
      obtain ⟨b27, h⟩ := gB_e h
      refine wr_iald hx hb hK hP (k := 1) (by decide) 0 ((tM_1 Z) _ _ _) rfl b27 dX12_reachAll_122 ?_
      refine lv_if_lt (tgt := 145) hx hb dX12_reachAll_123 (by decide) (fun q28 => ?_) (fun q28 => ?_)
      · have h := if_p h q28
        exact kb_X12_reachAll_145 Z    C  hc77 hc86 hc100 σ l1 l2 l3 l4 l5 h H locs hP hS ls (lv_sub hl [0, 1, 2, 3, 4, 5] rfl)
      · have h := if_n h q28
        refine lv_aload_n hx hb dX12_reachAll_126 rfl (lv_at hl 0 rfl) ?_
        refine wr_get (C := RX12) (T := TX12) (N := 41) hx hb hts (in_X12_reachAll_X12) hown hK hP (k := 0) (by decide) ((tM_0 Z) _ _ _) rfl 1 (by decide) (hts (.fieldLink RX12 11 "TuneSearchModel" "pitch" "[I") (by decide +kernel)) (fun _ h9 => h9) rfl dX12_reachAll_127 ?_
        refine lv_bipush (v := 24) hx hb dX12_reachAll_130 (by decide) ?_
        refine lv_iload_n hx hb dX12_reachAll_132 rfl (lv_at hl 2 rfl) ?_
        refine lv_imul hx hb dX12_reachAll_133 ?_
        refine lv_iload hx hb dX12_reachAll_134 (lv_at hl 5 rfl) ?_
        refine lv_iadd hx hb dX12_reachAll_136 ?_
        obtain ⟨b29, h⟩ := gB_e h
        refine wr_iald hx hb hK hP (k := 1) (by decide) 0 ((tM_1 Z) _ _ _) rfl b29 dX12_reachAll_137 ?_
        refine lv_if_lt (tgt := 145) hx hb dX12_reachAll_138 (by decide) (fun q30 => ?_) (fun q30 => ?_)
        · have h := if_p h q30
          exact kb_X12_reachAll_145 Z    C  hc77 hc86 hc100 σ l1 l2 l3 l4 l5 h H locs hP hS ls (lv_sub hl [0, 1, 2, 3, 4, 5] rfl)
        · have h := if_n h q30
          refine lv_iconst (v := 1) hx hb dX12_reachAll_141 (by decide) ?_
          refine lv_goto (tgt := 146) hx hb dX12_reachAll_142 (by decide) ?_
          exact kb_X12_reachAll_146 Z    C  hc77 hc86 hc100 σ l1 l2 l3 l4 l5 1 h H locs hP hS ls (lv_sub hl [0, 1, 2, 3, 4, 5] rfl)
def m_X12_reachAll_86_s   (c77 : SG → Int32 → Int32 → Int32 → Option (Unit × SG)) (c86 : SG → Int32 → Int32 → Int32 → Int32 → Option (Unit × SG)) (σ : SG) (l1 : Int32) (l2 : Int32) (l3 : Int32) (l4 : Int32) : Option (Unit × SG) :=
  gB (inB l1 9) (if (σ.1 3 l1.toNatClampNeg) ≤ l4 then (c77 σ l1 l2 l3) else (m_X12_reachAll_100   c77 c86 FV σ l1 l2 l3 l4 0))
def m_X12_reachAll_86   (c77 : SG → Int32 → Int32 → Int32 → Option (Unit × SG)) : Nat → SG → Int32 → Int32 → Int32 → Int32 → Option (Unit × SG)
  | 0, _, _, _, _, _ => none
  | n + 1, σ, l1, l2, l3, l4 => m_X12_reachAll_86_s   c77 (m_X12_reachAll_86   c77 n) σ l1 l2 l3 l4
set_option maxHeartbeats 4000000 in
set_option maxRecDepth 100000 in
theorem kb_X12_reachAll_86 {p : Program} {l : Launch} {e : Env} {s : State} {m : MethodId} {args : Array Value} {below : List Frame} {meth : Method} {c : Code} {E : EF} (Z : ZT)    (C : cy p s m args meth c cX12_reachAll none 9 RX12 wsX12_reachAll E (zD Z) vwCl 24 (za Z) (tysM Z)) {res : Unit × SG} {c77 : SG → Int32 → Int32 → Int32 → Option (Unit × SG)} (hc77 : ∀ (σ : SG) (l1 : Int32) (l2 : Int32) (l3 : Int32) , c77 σ l1 l2 l3 = some res → ∀ (H : Heap) (locs : List Loc), ws_P (zD Z) vwCl 24 (za Z) (tM Z) σ H → va_S (ws_A 24 (za Z)) s.heap H locs → ∀ (ls : Array Slot), lv_has ls 9 [(0, .ref (za Z 0)), (1, .int l1), (2, .int l2), (3, .int l3)] → W p l e rm_X12_reachAll s m args below meth c H locs 0 0 (MQ below (xQv E (zD Z) vwCl 24 (za Z) (tM Z) (tysM Z) res) args s 0 0 (ws_A 24 (za Z))) (F0 m 77 ls [])) : ∀ (n : Nat) (σ : SG) (l1 : Int32) (l2 : Int32) (l3 : Int32) (l4 : Int32) , m_X12_reachAll_86   c77 n σ l1 l2 l3 l4 = some res → ∀ (H : Heap) (locs : List Loc), ws_P (zD Z) vwCl 24 (za Z) (tM Z) σ H → va_S (ws_A 24 (za Z)) s.heap H locs → ∀ (ls : Array Slot), lv_has ls 9 [(0, .ref (za Z 0)), (1, .int l1), (2, .int l2), (3, .int l3), (4, .int l4)] → W p l e rm_X12_reachAll s m args below meth c H locs 0 0 (MQ below (xQv E (zD Z) vwCl 24 (za Z) (tM Z) (tysM Z) res) args s 0 0 (ws_A 24 (za Z))) (F0 m 86 ls []) := by
  have C0 := C
  obtain ⟨hx, hb, hr, hlocks, hml, hown, hts, hE, hJ, hK⟩ := C0
  intro n
  induction n with
  | zero =>
    intro σ l1 l2 l3 l4  h
    cases h
  | succ n ih =>
    intro σ l1 l2 l3 l4  h H locs hP hS ls hl
    have hc86 : ∀ (σ : SG) (l1 : Int32) (l2 : Int32) (l3 : Int32) (l4 : Int32) , m_X12_reachAll_86   c77 n σ l1 l2 l3 l4 = some res → ∀ (H : Heap) (locs : List Loc), ws_P (zD Z) vwCl 24 (za Z) (tM Z) σ H → va_S (ws_A 24 (za Z)) s.heap H locs → ∀ (ls : Array Slot), lv_has ls 9 [(0, .ref (za Z 0)), (1, .int l1), (2, .int l2), (3, .int l3), (4, .int l4)] → W p l e rm_X12_reachAll s m args below meth c H locs 0 0 (MQ below (xQv E (zD Z) vwCl 24 (za Z) (tM Z) (tysM Z) res) args s 0 0 (ws_A 24 (za Z))) (F0 m 86 ls []) := ih
    have h : m_X12_reachAll_86_s   c77 (m_X12_reachAll_86   c77 n) σ l1 l2 l3 l4 = some res := h
    unfold m_X12_reachAll_86_s at h
    refine lv_iload hx hb dX12_reachAll_86 (lv_at hl 4 rfl) ?_
    refine lv_aload_n hx hb dX12_reachAll_88 rfl (lv_at hl 0 rfl) ?_
    refine wr_get (C := RX12) (T := TX12) (N := 41) hx hb hts (in_X12_reachAll_X12) hown hK hP (k := 0) (by decide) ((tM_0 Z) _ _ _) rfl 3 (by decide) (hts (.fieldLink RX12 18 "TuneSearchModel" "size" "[I") (by decide +kernel)) (fun _ h9 => h9) rfl dX12_reachAll_89 ?_
    refine lv_iload_n hx hb dX12_reachAll_92 rfl (lv_at hl 1 rfl) ?_
    obtain ⟨b21, h⟩ := gB_e h
    refine wr_iald hx hb hK hP (k := 3) (by decide) 0 ((tM_3 Z) _ _ _) rfl b21 dX12_reachAll_93 ?_
    refine lv_icmp_ge (tgt := 340) hx hb dX12_reachAll_94 (by decide) (fun q22 => ?_) (fun q22 => ?_)
    · have h := if_p h q22
      refine lv_goto (tgt := 77) hx hb dX12_reachAll_340 (by decide) ?_
      exact hc77 σ l1 l2 l3 h H locs hP hS ls (lv_sub hl [0, 1, 2, 3] rfl)
    · have h := if_n h q22
      refine lv_iconst (v := 0) hx hb dX12_reachAll_97 (by decide) ?_
      refine lv_istore (lv' := [(5, .int 0), (0, .ref (za Z 0)), (1, .int l1), (2, .int l2), (3, .int l3), (4, .int l4)]) hx hb dX12_reachAll_98 hl (by decide) rfl (fun ls hl => ?_)
      exact kb_X12_reachAll_100 Z    C  hc77 hc86 FV σ l1 l2 l3 l4 0 h H locs hP hS ls (lv_sub hl [1, 2, 3, 4, 5, 0] rfl)
def m_X12_reachAll_77_s    (c77 : SG → Int32 → Int32 → Int32 → Option (Unit × SG)) (σ : SG) (l1 : Int32) (l2 : Int32) (l3 : Int32) : Option (Unit × SG) :=
  if l3 = 0 then (some ((), σ)) else (m_X12_reachAll_86   c77 FV σ l1 l2 0 0)
def m_X12_reachAll_77    : Nat → SG → Int32 → Int32 → Int32 → Option (Unit × SG)
  | 0, _, _, _, _ => none
  | n + 1, σ, l1, l2, l3 => m_X12_reachAll_77_s    (m_X12_reachAll_77    n) σ l1 l2 l3
set_option maxHeartbeats 4000000 in
set_option maxRecDepth 100000 in
theorem kb_X12_reachAll_77 {p : Program} {l : Launch} {e : Env} {s : State} {m : MethodId} {args : Array Value} {below : List Frame} {meth : Method} {c : Code} {E : EF} (Z : ZT)    (C : cy p s m args meth c cX12_reachAll none 9 RX12 wsX12_reachAll E (zD Z) vwCl 24 (za Z) (tysM Z)) {res : Unit × SG}   : ∀ (n : Nat) (σ : SG) (l1 : Int32) (l2 : Int32) (l3 : Int32) , m_X12_reachAll_77    n σ l1 l2 l3 = some res → ∀ (H : Heap) (locs : List Loc), ws_P (zD Z) vwCl 24 (za Z) (tM Z) σ H → va_S (ws_A 24 (za Z)) s.heap H locs → ∀ (ls : Array Slot), lv_has ls 9 [(0, .ref (za Z 0)), (1, .int l1), (2, .int l2), (3, .int l3)] → W p l e rm_X12_reachAll s m args below meth c H locs 0 0 (MQ below (xQv E (zD Z) vwCl 24 (za Z) (tM Z) (tysM Z) res) args s 0 0 (ws_A 24 (za Z))) (F0 m 77 ls []) := by
  have C0 := C
  obtain ⟨hx, hb, hr, hlocks, hml, hown, hts, hE, hJ, hK⟩ := C0
  intro n
  induction n with
  | zero =>
    intro σ l1 l2 l3  h
    cases h
  | succ n ih =>
    intro σ l1 l2 l3  h H locs hP hS ls hl
    have hc77 : ∀ (σ : SG) (l1 : Int32) (l2 : Int32) (l3 : Int32) , m_X12_reachAll_77    n σ l1 l2 l3 = some res → ∀ (H : Heap) (locs : List Loc), ws_P (zD Z) vwCl 24 (za Z) (tM Z) σ H → va_S (ws_A 24 (za Z)) s.heap H locs → ∀ (ls : Array Slot), lv_has ls 9 [(0, .ref (za Z 0)), (1, .int l1), (2, .int l2), (3, .int l3)] → W p l e rm_X12_reachAll s m args below meth c H locs 0 0 (MQ below (xQv E (zD Z) vwCl 24 (za Z) (tM Z) (tysM Z) res) args s 0 0 (ws_A 24 (za Z))) (F0 m 77 ls []) := ih
    have h : m_X12_reachAll_77_s    (m_X12_reachAll_77    n) σ l1 l2 l3 = some res := h
    unfold m_X12_reachAll_77_s at h
    refine lv_iload_n hx hb dX12_reachAll_77 rfl (lv_at hl 3 rfl) ?_
    refine lv_if_eq (tgt := 343) hx hb dX12_reachAll_78 (by decide) (fun q6 => ?_) (fun q6 => ?_)
    · have h := if_p h q6
      exact xr_vret hx hb hr hlocks hE hJ hK hP hS h dX12_reachAll_343
    · have h := if_n h q6
      refine lv_iconst (v := 0) hx hb dX12_reachAll_81 (by decide) ?_
      refine lv_istore_n (lv' := [(3, .int 0), (0, .ref (za Z 0)), (1, .int l1), (2, .int l2)]) hx hb dX12_reachAll_82 rfl hl (by decide) rfl (fun ls hl => ?_)
      refine lv_iconst (v := 0) hx hb dX12_reachAll_83 (by decide) ?_
      refine lv_istore (lv' := [(4, .int 0), (3, .int 0), (0, .ref (za Z 0)), (1, .int l1), (2, .int l2)]) hx hb dX12_reachAll_84 hl (by decide) rfl (fun ls hl => ?_)
      exact kb_X12_reachAll_86 Z    C  hc77 FV σ l1 l2 0 0 h H locs hP hS ls (lv_sub hl [2, 3, 4, 1, 0] rfl)
def m_X12_reachAll_39   (c2 : SG → Int32 → Int32 → Int32 → Option (Unit × SG)) (σ : SG) (l1 : Int32) (l2 : Int32) (l3 : Int32) (s0 : Int64) (s1 : Int32) : Option (Unit × SG) :=
  gB (inB s1 48) (lS (sJ σ 21 s1.toNatClampNeg s0) (fun σ8 => gB (inB (24 + l3) 48) (lS (sJ σ8 21 (24 + l3).toNatClampNeg 2305843009213693951) (fun σ11 => gB (inB l3 48) (lS (sI σ11 22 l3.toNatClampNeg (-1)) (fun σ14 => gB (inB (24 + l3) 48) (lS (sI σ14 22 (24 + l3).toNatClampNeg (-1)) (fun σ17 => lS (l3 + 1) (fun v19 => c2 σ17 l1 l2 v19)))))))))
set_option maxHeartbeats 4000000 in
set_option maxRecDepth 100000 in
theorem kb_X12_reachAll_39 {p : Program} {l : Launch} {e : Env} {s : State} {m : MethodId} {args : Array Value} {below : List Frame} {meth : Method} {c : Code} {E : EF} (Z : ZT)    (C : cy p s m args meth c cX12_reachAll none 9 RX12 wsX12_reachAll E (zD Z) vwCl 24 (za Z) (tysM Z)) {res : Unit × SG} {c2 : SG → Int32 → Int32 → Int32 → Option (Unit × SG)} (hc2 : ∀ (σ : SG) (l1 : Int32) (l2 : Int32) (l3 : Int32) , c2 σ l1 l2 l3 = some res → ∀ (H : Heap) (locs : List Loc), ws_P (zD Z) vwCl 24 (za Z) (tM Z) σ H → va_S (ws_A 24 (za Z)) s.heap H locs → ∀ (ls : Array Slot), lv_has ls 9 [(0, .ref (za Z 0)), (1, .int l1), (2, .int l2), (3, .int l3)] → W p l e rm_X12_reachAll s m args below meth c H locs 0 0 (MQ below (xQv E (zD Z) vwCl 24 (za Z) (tM Z) (tysM Z) res) args s 0 0 (ws_A 24 (za Z))) (F0 m 2 ls [])) : ∀ (σ : SG) (l1 : Int32) (l2 : Int32) (l3 : Int32) (s0 : Int64) (s1 : Int32) , m_X12_reachAll_39   c2 σ l1 l2 l3 s0 s1 = some res → ∀ (H : Heap) (locs : List Loc), ws_P (zD Z) vwCl 24 (za Z) (tM Z) σ H → va_S (ws_A 24 (za Z)) s.heap H locs → ∀ (ls : Array Slot), lv_has ls 9 [(0, .ref (za Z 0)), (1, .int l1), (2, .int l2), (3, .int l3)] → W p l e rm_X12_reachAll s m args below meth c H locs 0 0 (MQ below (xQv E (zD Z) vwCl 24 (za Z) (tM Z) (tysM Z) res) args s 0 0 (ws_A 24 (za Z))) (F0 m 39 ls [.long s0, .int s1, .ref (za Z 21)]) := by
  have C0 := C
  obtain ⟨hx, hb, hr, hlocks, hml, hown, hts, hE, hJ, hK⟩ := C0
  intro σ l1 l2 l3 s0 s1  h H locs hP hS ls hl
  unfold m_X12_reachAll_39 at h
  obtain ⟨b7, h⟩ := gB_e h
  refine wr_last hx hb hK hP hJ hS (k := 21) (by decide) 1 (tM_21 Z) rfl b7 dX12_reachAll_39 (fun H locs hP hS => ?_)
  obtain ⟨σ8, e9, h⟩ := lS_e h
  rw [← e9] at hP
  refine lv_aload_n hx hb dX12_reachAll_40 rfl (lv_at hl 0 rfl) ?_
  refine wr_get (C := RX12) (T := TX12) (N := 41) hx hb hts (in_X12_reachAll_X12) hown hK hP (k := 0) (by decide) ((tM_0 Z) _ _ _) rfl 36 (by decide) (hts (.fieldLink RX12 78 "TuneSearchModel" "reach" "[J") (by decide +kernel)) (fun _ h9 => h9) rfl dX12_reachAll_41 ?_
  refine lv_bipush (v := 24) hx hb dX12_reachAll_44 (by decide) ?_
  refine lv_iload_n hx hb dX12_reachAll_46 rfl (lv_at hl 3 rfl) ?_
  refine lv_iadd hx hb dX12_reachAll_47 ?_
  refine lv_ldc2 (v := 2305843009213693951) hx hb hown (hts (.constantLong RX12 245 2305843009213693951) (by decide +kernel)) dX12_reachAll_48 ?_
  obtain ⟨b10, h⟩ := gB_e h
  refine wr_last hx hb hK hP hJ hS (k := 21) (by decide) 1 (tM_21 Z) rfl b10 dX12_reachAll_51 (fun H locs hP hS => ?_)
  obtain ⟨σ11, e12, h⟩ := lS_e h
  rw [← e12] at hP
  refine lv_aload_n hx hb dX12_reachAll_52 rfl (lv_at hl 0 rfl) ?_
  refine wr_get (C := RX12) (T := TX12) (N := 41) hx hb hts (in_X12_reachAll_X12) hown hK hP (k := 0) (by decide) ((tM_0 Z) _ _ _) rfl 37 (by decide) (hts (.fieldLink RX12 81 "TuneSearchModel" "from" "[I") (by decide +kernel)) (fun _ h9 => h9) rfl dX12_reachAll_53 ?_
  refine lv_iload_n hx hb dX12_reachAll_56 rfl (lv_at hl 3 rfl) ?_
  refine lv_iconst (v := (-1)) hx hb dX12_reachAll_57 (by decide) ?_
  obtain ⟨b13, h⟩ := gB_e h
  refine wr_iast hx hb hK hP hJ hS (k := 22) (by decide) 0 (tM_22 Z) rfl b13 dX12_reachAll_58 (fun H locs hP hS => ?_)
  obtain ⟨σ14, e15, h⟩ := lS_e h
  rw [← e15] at hP
  refine lv_aload_n hx hb dX12_reachAll_59 rfl (lv_at hl 0 rfl) ?_
  refine wr_get (C := RX12) (T := TX12) (N := 41) hx hb hts (in_X12_reachAll_X12) hown hK hP (k := 0) (by decide) ((tM_0 Z) _ _ _) rfl 37 (by decide) (hts (.fieldLink RX12 81 "TuneSearchModel" "from" "[I") (by decide +kernel)) (fun _ h9 => h9) rfl dX12_reachAll_60 ?_
  refine lv_bipush (v := 24) hx hb dX12_reachAll_63 (by decide) ?_
  refine lv_iload_n hx hb dX12_reachAll_65 rfl (lv_at hl 3 rfl) ?_
  refine lv_iadd hx hb dX12_reachAll_66 ?_
  refine lv_iconst (v := (-1)) hx hb dX12_reachAll_67 (by decide) ?_
  obtain ⟨b16, h⟩ := gB_e h
  refine wr_iast hx hb hK hP hJ hS (k := 22) (by decide) 0 (tM_22 Z) rfl b16 dX12_reachAll_68 (fun H locs hP hS => ?_)
  obtain ⟨σ17, e18, h⟩ := lS_e h
  rw [← e18] at hP
  obtain ⟨v19, e20, h⟩ := lS_e h
  refine lv_iinc (v := v19) (lv' := [(3, .int v19), (0, .ref (za Z 0)), (1, .int l1), (2, .int l2)]) hx hb dX12_reachAll_69 hl (k := 3) rfl (by rw [e20]; rfl) (by decide) rfl (fun ls hl => ?_)
  refine lv_goto (tgt := 2) hx hb dX12_reachAll_72 (by decide) ?_
  exact hc2 σ17 l1 l2 v19 h H locs hP hS ls (lv_sub hl [1, 2, 3, 0] rfl)
def m_X12_reachAll_36   (c2 : SG → Int32 → Int32 → Int32 → Option (Unit × SG)) (σ : SG) (l1 : Int32) (l2 : Int32) (l3 : Int32) (s0 : Int32) : Option (Unit × SG) :=
  m_X12_reachAll_39   c2 σ l1 l2 l3 2305843009213693951 s0
set_option maxHeartbeats 4000000 in
set_option maxRecDepth 100000 in
theorem kb_X12_reachAll_36 {p : Program} {l : Launch} {e : Env} {s : State} {m : MethodId} {args : Array Value} {below : List Frame} {meth : Method} {c : Code} {E : EF} (Z : ZT)    (C : cy p s m args meth c cX12_reachAll none 9 RX12 wsX12_reachAll E (zD Z) vwCl 24 (za Z) (tysM Z)) {res : Unit × SG} {c2 : SG → Int32 → Int32 → Int32 → Option (Unit × SG)} (hc2 : ∀ (σ : SG) (l1 : Int32) (l2 : Int32) (l3 : Int32) , c2 σ l1 l2 l3 = some res → ∀ (H : Heap) (locs : List Loc), ws_P (zD Z) vwCl 24 (za Z) (tM Z) σ H → va_S (ws_A 24 (za Z)) s.heap H locs → ∀ (ls : Array Slot), lv_has ls 9 [(0, .ref (za Z 0)), (1, .int l1), (2, .int l2), (3, .int l3)] → W p l e rm_X12_reachAll s m args below meth c H locs 0 0 (MQ below (xQv E (zD Z) vwCl 24 (za Z) (tM Z) (tysM Z) res) args s 0 0 (ws_A 24 (za Z))) (F0 m 2 ls [])) : ∀ (σ : SG) (l1 : Int32) (l2 : Int32) (l3 : Int32) (s0 : Int32) , m_X12_reachAll_36   c2 σ l1 l2 l3 s0 = some res → ∀ (H : Heap) (locs : List Loc), ws_P (zD Z) vwCl 24 (za Z) (tM Z) σ H → va_S (ws_A 24 (za Z)) s.heap H locs → ∀ (ls : Array Slot), lv_has ls 9 [(0, .ref (za Z 0)), (1, .int l1), (2, .int l2), (3, .int l3)] → W p l e rm_X12_reachAll s m args below meth c H locs 0 0 (MQ below (xQv E (zD Z) vwCl 24 (za Z) (tM Z) (tysM Z) res) args s 0 0 (ws_A 24 (za Z))) (F0 m 36 ls [.int s0, .ref (za Z 21)]) := by
  have C0 := C
  obtain ⟨hx, hb, hr, hlocks, hml, hown, hts, hE, hJ, hK⟩ := C0
  intro σ l1 l2 l3 s0  h H locs hP hS ls hl
  unfold m_X12_reachAll_36 at h
  refine lv_ldc2 (v := 2305843009213693951) hx hb hown (hts (.constantLong RX12 245 2305843009213693951) (by decide +kernel)) dX12_reachAll_36 ?_
  exact kb_X12_reachAll_39 Z    C  hc2 σ l1 l2 l3 2305843009213693951 s0 h H locs hP hS ls (lv_sub hl [0, 1, 2, 3] rfl)
def m_X12_reachAll_2_s    (c2 : SG → Int32 → Int32 → Int32 → Option (Unit × SG)) (σ : SG) (l1 : Int32) (l2 : Int32) (l3 : Int32) : Option (Unit × SG) :=
  if 24 ≤ l3 then (m_X12_reachAll_77    FV σ l1 l2 1) else (gB (inB l1 9) (if (σ.1 3 l1.toNatClampNeg) ≤ l3 then (m_X12_reachAll_36   c2 σ l1 l2 l3 l3) else (gB (inB l3 24) (if (σ.1 17 l3.toNatClampNeg) ≤ 0 then (m_X12_reachAll_36   c2 σ l1 l2 l3 l3) else (m_X12_reachAll_39   c2 σ l1 l2 l3 0 l3)))))
def m_X12_reachAll_2    : Nat → SG → Int32 → Int32 → Int32 → Option (Unit × SG)
  | 0, _, _, _, _ => none
  | n + 1, σ, l1, l2, l3 => m_X12_reachAll_2_s    (m_X12_reachAll_2    n) σ l1 l2 l3
set_option maxHeartbeats 4000000 in
set_option maxRecDepth 100000 in
theorem kb_X12_reachAll_2 {p : Program} {l : Launch} {e : Env} {s : State} {m : MethodId} {args : Array Value} {below : List Frame} {meth : Method} {c : Code} {E : EF} (Z : ZT)    (C : cy p s m args meth c cX12_reachAll none 9 RX12 wsX12_reachAll E (zD Z) vwCl 24 (za Z) (tysM Z)) {res : Unit × SG}   : ∀ (n : Nat) (σ : SG) (l1 : Int32) (l2 : Int32) (l3 : Int32) , m_X12_reachAll_2    n σ l1 l2 l3 = some res → ∀ (H : Heap) (locs : List Loc), ws_P (zD Z) vwCl 24 (za Z) (tM Z) σ H → va_S (ws_A 24 (za Z)) s.heap H locs → ∀ (ls : Array Slot), lv_has ls 9 [(0, .ref (za Z 0)), (1, .int l1), (2, .int l2), (3, .int l3)] → W p l e rm_X12_reachAll s m args below meth c H locs 0 0 (MQ below (xQv E (zD Z) vwCl 24 (za Z) (tM Z) (tysM Z) res) args s 0 0 (ws_A 24 (za Z))) (F0 m 2 ls []) := by
  have C0 := C
  obtain ⟨hx, hb, hr, hlocks, hml, hown, hts, hE, hJ, hK⟩ := C0
  intro n
  induction n with
  | zero =>
    intro σ l1 l2 l3  h
    cases h
  | succ n ih =>
    intro σ l1 l2 l3  h H locs hP hS ls hl
    have hc2 : ∀ (σ : SG) (l1 : Int32) (l2 : Int32) (l3 : Int32) , m_X12_reachAll_2    n σ l1 l2 l3 = some res → ∀ (H : Heap) (locs : List Loc), ws_P (zD Z) vwCl 24 (za Z) (tM Z) σ H → va_S (ws_A 24 (za Z)) s.heap H locs → ∀ (ls : Array Slot), lv_has ls 9 [(0, .ref (za Z 0)), (1, .int l1), (2, .int l2), (3, .int l3)] → W p l e rm_X12_reachAll s m args below meth c H locs 0 0 (MQ below (xQv E (zD Z) vwCl 24 (za Z) (tM Z) (tysM Z) res) args s 0 0 (ws_A 24 (za Z))) (F0 m 2 ls []) := ih
    have h : m_X12_reachAll_2_s    (m_X12_reachAll_2    n) σ l1 l2 l3 = some res := h
    unfold m_X12_reachAll_2_s at h
    refine lv_iload_n hx hb dX12_reachAll_2 rfl (lv_at hl 3 rfl) ?_
    refine lv_bipush (v := 24) hx hb dX12_reachAll_3 (by decide) ?_
    refine lv_icmp_ge (tgt := 75) hx hb dX12_reachAll_5 (by decide) (fun q1 => ?_) (fun q1 => ?_)
    · have h := if_p h q1
      refine lv_iconst (v := 1) hx hb dX12_reachAll_75 (by decide) ?_
      refine lv_istore_n (lv' := [(3, .int 1), (0, .ref (za Z 0)), (1, .int l1), (2, .int l2)]) hx hb dX12_reachAll_76 rfl hl (by decide) rfl (fun ls hl => ?_)
      exact kb_X12_reachAll_77 Z    C   FV σ l1 l2 1 h H locs hP hS ls (lv_sub hl [1, 2, 3, 0] rfl)
    · have h := if_n h q1
      refine lv_aload_n hx hb dX12_reachAll_8 rfl (lv_at hl 0 rfl) ?_
      refine wr_get (C := RX12) (T := TX12) (N := 41) hx hb hts (in_X12_reachAll_X12) hown hK hP (k := 0) (by decide) ((tM_0 Z) _ _ _) rfl 36 (by decide) (hts (.fieldLink RX12 78 "TuneSearchModel" "reach" "[J") (by decide +kernel)) (fun _ h9 => h9) rfl dX12_reachAll_9 ?_
      refine lv_iload_n hx hb dX12_reachAll_12 rfl (lv_at hl 3 rfl) ?_
      refine lv_iload_n hx hb dX12_reachAll_13 rfl (lv_at hl 3 rfl) ?_
      refine lv_aload_n hx hb dX12_reachAll_14 rfl (lv_at hl 0 rfl) ?_
      refine wr_get (C := RX12) (T := TX12) (N := 41) hx hb hts (in_X12_reachAll_X12) hown hK hP (k := 0) (by decide) ((tM_0 Z) _ _ _) rfl 3 (by decide) (hts (.fieldLink RX12 18 "TuneSearchModel" "size" "[I") (by decide +kernel)) (fun _ h9 => h9) rfl dX12_reachAll_15 ?_
      refine lv_iload_n hx hb dX12_reachAll_18 rfl (lv_at hl 1 rfl) ?_
      obtain ⟨b2, h⟩ := gB_e h
      refine wr_iald hx hb hK hP (k := 3) (by decide) 0 ((tM_3 Z) _ _ _) rfl b2 dX12_reachAll_19 ?_
      refine lv_icmp_ge (tgt := 36) hx hb dX12_reachAll_20 (by decide) (fun q3 => ?_) (fun q3 => ?_)
      · have h := if_p h q3
        exact kb_X12_reachAll_36 Z    C  hc2 σ l1 l2 l3 l3 h H locs hP hS ls (lv_sub hl [0, 1, 2, 3] rfl)
      · have h := if_n h q3
        refine lv_aload_n hx hb dX12_reachAll_23 rfl (lv_at hl 0 rfl) ?_
        refine wr_get (C := RX12) (T := TX12) (N := 41) hx hb hts (in_X12_reachAll_X12) hown hK hP (k := 0) (by decide) ((tM_0 Z) _ _ _) rfl 32 (by decide) (hts (.fieldLink RX12 65 "TuneSearchModel" "leftA" "[I") (by decide +kernel)) (fun _ h9 => h9) rfl dX12_reachAll_24 ?_
        refine lv_iload_n hx hb dX12_reachAll_27 rfl (lv_at hl 3 rfl) ?_
        obtain ⟨b4, h⟩ := gB_e h
        refine wr_iald hx hb hK hP (k := 17) (by decide) 0 ((tM_17 Z) _ _ _) rfl b4 dX12_reachAll_28 ?_
        refine lv_if_le (tgt := 36) hx hb dX12_reachAll_29 (by decide) (fun q5 => ?_) (fun q5 => ?_)
        · have h := if_p h q5
          exact kb_X12_reachAll_36 Z    C  hc2 σ l1 l2 l3 l3 h H locs hP hS ls (lv_sub hl [0, 1, 2, 3] rfl)
        · have h := if_n h q5
          refine lv_lconst (v := 0) hx hb dX12_reachAll_32 (by decide) ?_
          refine lv_goto (tgt := 39) hx hb dX12_reachAll_33 (by decide) ?_
          exact kb_X12_reachAll_39 Z    C  hc2 σ l1 l2 l3 0 l3 h H locs hP hS ls (lv_sub hl [0, 1, 2, 3] rfl)
def m_X12_reachAll_0    (σ : SG) (p0 : Int32) (p1 : Int32) : Option (Unit × SG) :=
  m_X12_reachAll_2    FV σ p0 p1 0
set_option maxHeartbeats 4000000 in
set_option maxRecDepth 100000 in
theorem kb_X12_reachAll_0 {p : Program} {l : Launch} {e : Env} {s : State} {m : MethodId} {args : Array Value} {below : List Frame} {meth : Method} {c : Code} {E : EF} (Z : ZT)    (C : cy p s m args meth c cX12_reachAll none 9 RX12 wsX12_reachAll E (zD Z) vwCl 24 (za Z) (tysM Z)) {res : Unit × SG}   : ∀ (σ : SG) (p0 : Int32) (p1 : Int32) , m_X12_reachAll_0    σ p0 p1 = some res → ∀ (H : Heap) (locs : List Loc), ws_P (zD Z) vwCl 24 (za Z) (tM Z) σ H → va_S (ws_A 24 (za Z)) s.heap H locs → ∀ (ls : Array Slot), lv_has ls 9 [(0, .ref (za Z 0)), (1, .int p0), (2, .int p1)] → W p l e rm_X12_reachAll s m args below meth c H locs 0 0 (MQ below (xQv E (zD Z) vwCl 24 (za Z) (tM Z) (tysM Z) res) args s 0 0 (ws_A 24 (za Z))) (F0 m 0 ls []) := by
  have C0 := C
  obtain ⟨hx, hb, hr, hlocks, hml, hown, hts, hE, hJ, hK⟩ := C0
  intro σ p0 p1  h H locs hP hS ls hl
  unfold m_X12_reachAll_0 at h
  refine lv_iconst (v := 0) hx hb dX12_reachAll_0 (by decide) ?_
  refine lv_istore_n (lv' := [(3, .int 0), (0, .ref (za Z 0)), (1, .int p0), (2, .int p1)]) hx hb dX12_reachAll_1 rfl hl (by decide) rfl (fun ls hl => ?_)
  exact kb_X12_reachAll_2 Z    C   FV σ p0 p1 0 h H locs hP hS ls (lv_sub hl [1, 2, 3, 0] rfl)
def m_X12_reachAll   (σ : SG) (p0 : Int32) (p1 : Int32) : Option (Unit × SG) := m_X12_reachAll_0   σ p0 p1
set_option maxHeartbeats 4000000 in
set_option maxRecDepth 100000 in
theorem k_X12_reachAll (l : Launch) {E : EF} (Z : ZT)    (σ : SG) (p0 : Int32) (p1 : Int32) {res : Unit × SG} (h : m_X12_reachAll   σ p0 p1 = some res) : Met l yX12_reachAll wsX12_reachAll rm_X12_reachAll (va_Pc [.ref (za Z 0), .int p0, .int p1] (wx E (zD Z) vwCl 24 (za Z) (tM Z) (tysM Z) σ)) (xQv E (zD Z) vwCl 24 (za Z) (tM Z) (tysM Z) res) 0 0 (ws_A 24 (za Z)) := by
  refine Met.ofW (cc := cX12_reachAll) (maxL := 9) (ret := none) (by decide) rfl ?_
  intro p e s m args below meth c s₁ B hml hv
  obtain ⟨rfl, hE, hJ, hP, hK⟩ := hv
  have hl := lv_entry ([.ref (za Z 0), .int p0, .int p1]) (n := 9) (Nat.le_of_ble_eq_true rfl)
  rw [lg_entry_eq]
  generalize (lg_sl ([.ref (za Z 0), .int p0, .int p1]) ++ List.replicate (9 - (lg_sl ([.ref (za Z 0), .int p0, .int p1])).length) Slot.unset).toArray = ls at hl ⊢
  exact kb_X12_reachAll_0 Z    ⟨B.exec, B.bytes, B.returns, B.notSynchronized, hml, findClass_of_methodNamed B.named, atoms_spec (ws := wsX12_reachAll) B.pre, hE, hJ, hK⟩ σ p0 p1 h s.heap [] hP va_S.rf ls hl
/-! TuneSearchModel.freightOf(II)J -/
abbrev rm_X12_freightOf : Room := { frames := 2, cells := 0, slots := 0, locals := 49 }
theorem in_X12_freightOf_X12 : ∀ w ∈ wsX120, w ∈ wsX12_freightOf := by decide +kernel
def m_X12_freightOf_322_s   (c56 : SG → Int32 → Int32 → Int64 → Int32 → Option (Int64 × SG)) (c322 : SG → Int32 → Int32 → Int64 → Int32 → Int32 → Int32 → Option (Int64 × SG)) (σ : SG) (l1 : Int32) (l2 : Int32) (l5 : Int64) (l7 : Int32) (l9 : Int32) (l11 : Int32) : Option (Int64 × SG) :=
  gB (inB l11 48) (if (σ.1 22 l11.toNatClampNeg) = (-1) then (c56 σ l1 l2 l5 l7) else (gB (inB l11 48) (lS (σ.1 22 l11.toNatClampNeg) (fun v76 => gB (inB ((24 * l11) + v76) 576) (gB (inB ((24 * l11) + v76) 576) (lS (sI σ 19 ((24 * l11) + v76).toNatClampNeg ((σ.1 19 ((24 * l11) + v76).toNatClampNeg) - l9)) (fun σ80 => gB (inB (24 + v76) 48) (lS (σ80.1 22 (24 + v76).toNatClampNeg) (fun v83 => gB (inB ((24 * v83) + v76) 576) (gB (inB ((24 * v83) + v76) 576) (lS (sI σ80 19 ((24 * v83) + v76).toNatClampNeg ((σ80.1 19 ((24 * v83) + v76).toNatClampNeg) + l9)) (fun σ87 => c322 σ87 l1 l2 l5 l7 l9 v83))))))))))))
def m_X12_freightOf_322   (c56 : SG → Int32 → Int32 → Int64 → Int32 → Option (Int64 × SG)) : Nat → SG → Int32 → Int32 → Int64 → Int32 → Int32 → Int32 → Option (Int64 × SG)
  | 0, _, _, _, _, _, _, _ => none
  | n + 1, σ, l1, l2, l5, l7, l9, l11 => m_X12_freightOf_322_s   c56 (m_X12_freightOf_322   c56 n) σ l1 l2 l5 l7 l9 l11
set_option maxHeartbeats 4000000 in
set_option maxRecDepth 100000 in
theorem kb_X12_freightOf_322 {p : Program} {l : Launch} {e : Env} {s : State} {m : MethodId} {args : Array Value} {below : List Frame} {meth : Method} {c : Code} {E : EF} (Z : ZT)    (C : cy p s m args meth c cX12_freightOf (some .long) 13 RX12 wsX12_freightOf E (zD Z) vwCl 24 (za Z) (tysM Z)) {res : Int64 × SG} {c56 : SG → Int32 → Int32 → Int64 → Int32 → Option (Int64 × SG)} (hc56 : ∀ (σ : SG) (l1 : Int32) (l2 : Int32) (l5 : Int64) (l7 : Int32) , c56 σ l1 l2 l5 l7 = some res → ∀ (H : Heap) (locs : List Loc), ws_P (zD Z) vwCl 24 (za Z) (tM Z) σ H → va_S (ws_A 24 (za Z)) s.heap H locs → ∀ (ls : Array Slot), lv_has ls 13 [(0, .ref (za Z 0)), (1, .int l1), (2, .int l2), (5, .long l5), (7, .int l7)] → W p l e rm_X12_freightOf s m args below meth c H locs 0 0 (MQ below (xQl E (zD Z) vwCl 24 (za Z) (tM Z) (tysM Z) res) args s 0 0 (ws_A 24 (za Z))) (F0 m 56 ls [])) : ∀ (n : Nat) (σ : SG) (l1 : Int32) (l2 : Int32) (l5 : Int64) (l7 : Int32) (l9 : Int32) (l11 : Int32) , m_X12_freightOf_322   c56 n σ l1 l2 l5 l7 l9 l11 = some res → ∀ (H : Heap) (locs : List Loc), ws_P (zD Z) vwCl 24 (za Z) (tM Z) σ H → va_S (ws_A 24 (za Z)) s.heap H locs → ∀ (ls : Array Slot), lv_has ls 13 [(0, .ref (za Z 0)), (1, .int l1), (2, .int l2), (5, .long l5), (7, .int l7), (9, .int l9), (11, .int l11)] → W p l e rm_X12_freightOf s m args below meth c H locs 0 0 (MQ below (xQl E (zD Z) vwCl 24 (za Z) (tM Z) (tysM Z) res) args s 0 0 (ws_A 24 (za Z))) (F0 m 322 ls []) := by
  have C0 := C
  obtain ⟨hx, hb, hr, hlocks, hml, hown, hts, hE, hJ, hK⟩ := C0
  intro n
  induction n with
  | zero =>
    intro σ l1 l2 l5 l7 l9 l11  h
    cases h
  | succ n ih =>
    intro σ l1 l2 l5 l7 l9 l11  h H locs hP hS ls hl
    have hc322 : ∀ (σ : SG) (l1 : Int32) (l2 : Int32) (l5 : Int64) (l7 : Int32) (l9 : Int32) (l11 : Int32) , m_X12_freightOf_322   c56 n σ l1 l2 l5 l7 l9 l11 = some res → ∀ (H : Heap) (locs : List Loc), ws_P (zD Z) vwCl 24 (za Z) (tM Z) σ H → va_S (ws_A 24 (za Z)) s.heap H locs → ∀ (ls : Array Slot), lv_has ls 13 [(0, .ref (za Z 0)), (1, .int l1), (2, .int l2), (5, .long l5), (7, .int l7), (9, .int l9), (11, .int l11)] → W p l e rm_X12_freightOf s m args below meth c H locs 0 0 (MQ below (xQl E (zD Z) vwCl 24 (za Z) (tM Z) (tysM Z) res) args s 0 0 (ws_A 24 (za Z))) (F0 m 322 ls []) := ih
    have h : m_X12_freightOf_322_s   c56 (m_X12_freightOf_322   c56 n) σ l1 l2 l5 l7 l9 l11 = some res := h
    unfold m_X12_freightOf_322_s at h
    refine lv_aload_n hx hb dX12_freightOf_322 rfl (lv_at hl 0 rfl) ?_
    refine wr_get (C := RX12) (T := TX12) (N := 41) hx hb hts (in_X12_freightOf_X12) hown hK hP (k := 0) (by decide) ((tM_0 Z) _ _ _) rfl 37 (by decide) (hts (.fieldLink RX12 81 "TuneSearchModel" "from" "[I") (by decide +kernel)) (fun _ h9 => h9) rfl dX12_freightOf_323 ?_
    refine lv_iload hx hb dX12_freightOf_326 (lv_at hl 6 rfl) ?_
    obtain ⟨b73, h⟩ := gB_e h
    refine wr_iald hx hb hK hP (k := 22) (by decide) 0 ((tM_22 Z) _ _ _) rfl b73 dX12_freightOf_328 ?_
    refine lv_iconst (v := (-1)) hx hb dX12_freightOf_329 (by decide) ?_
    refine lv_icmp_eq (tgt := 393) hx hb dX12_freightOf_330 (by decide) (fun q74 => ?_) (fun q74 => ?_)
    · have h := if_p h q74
      refine lv_goto (tgt := 56) hx hb dX12_freightOf_393 (by decide) ?_
      exact hc56 σ l1 l2 l5 l7 h H locs hP hS ls (lv_sub hl [0, 1, 2, 3, 4] rfl)
    · have h := if_n h q74
      refine lv_aload_n hx hb dX12_freightOf_333 rfl (lv_at hl 0 rfl) ?_
      refine wr_get (C := RX12) (T := TX12) (N := 41) hx hb hts (in_X12_freightOf_X12) hown hK hP (k := 0) (by decide) ((tM_0 Z) _ _ _) rfl 37 (by decide) (hts (.fieldLink RX12 81 "TuneSearchModel" "from" "[I") (by decide +kernel)) (fun _ h9 => h9) rfl dX12_freightOf_334 ?_
      refine lv_iload hx hb dX12_freightOf_337 (lv_at hl 6 rfl) ?_
      obtain ⟨b75, h⟩ := gB_e h
      refine wr_iald hx hb hK hP (k := 22) (by decide) 0 ((tM_22 Z) _ _ _) rfl b75 dX12_freightOf_339 ?_
      refine lv_topi (fun v76 e77 => ?_)
      have h := lS_u h e77
      refine lv_istore (lv' := [(12, .int v76), (0, .ref (za Z 0)), (1, .int l1), (2, .int l2), (5, .long l5), (7, .int l7), (9, .int l9), (11, .int l11)]) hx hb dX12_freightOf_340 hl (by decide) rfl (fun ls hl => ?_)
      refine lv_aload_n hx hb dX12_freightOf_342 rfl (lv_at hl 1 rfl) ?_
      refine wr_get (C := RX12) (T := TX12) (N := 41) hx hb hts (in_X12_freightOf_X12) hown hK hP (k := 0) (by decide) ((tM_0 Z) _ _ _) rfl 34 (by decide) (hts (.fieldLink RX12 71 "TuneSearchModel" "goes" "[I") (by decide +kernel)) (fun _ h9 => h9) rfl dX12_freightOf_343 ?_
      refine lv_bipush (v := 24) hx hb dX12_freightOf_346 (by decide) ?_
      refine lv_iload hx hb dX12_freightOf_348 (lv_at hl 7 rfl) ?_
      refine lv_imul hx hb dX12_freightOf_350 ?_
      refine lv_iload hx hb dX12_freightOf_351 (lv_at hl 0 rfl) ?_
      refine lv_iadd hx hb dX12_freightOf_353 ?_
      refine lv_dup2_11 hx hb dX12_freightOf_354 rfl rfl ?_
      obtain ⟨b78, h⟩ := gB_e h
      refine wr_iald hx hb hK hP (k := 19) (by decide) 0 ((tM_19 Z) _ _ _) rfl b78 dX12_freightOf_355 ?_
      refine lv_iload hx hb dX12_freightOf_356 (lv_at hl 6 rfl) ?_
      refine lv_isub hx hb dX12_freightOf_358 ?_
      obtain ⟨b79, h⟩ := gB_e h
      refine wr_iast hx hb hK hP hJ hS (k := 19) (by decide) 0 (tM_19 Z) rfl b79 dX12_freightOf_359 (fun H locs hP hS => ?_)
      obtain ⟨σ80, e81, h⟩ := lS_e h
      rw [← e81] at hP
      refine lv_aload_n hx hb dX12_freightOf_360 rfl (lv_at hl 1 rfl) ?_
      refine wr_get (C := RX12) (T := TX12) (N := 41) hx hb hts (in_X12_freightOf_X12) hown hK hP (k := 0) (by decide) ((tM_0 Z) _ _ _) rfl 37 (by decide) (hts (.fieldLink RX12 81 "TuneSearchModel" "from" "[I") (by decide +kernel)) (fun _ h9 => h9) rfl dX12_freightOf_361 ?_
      refine lv_bipush (v := 24) hx hb dX12_freightOf_364 (by decide) ?_
      refine lv_iload hx hb dX12_freightOf_366 (lv_at hl 0 rfl) ?_
      refine lv_iadd hx hb dX12_freightOf_368 ?_
      obtain ⟨b82, h⟩ := gB_e h
      refine wr_iald hx hb hK hP (k := 22) (by decide) 0 ((tM_22 Z) _ _ _) rfl b82 dX12_freightOf_369 ?_
      refine lv_topi (fun v83 e84 => ?_)
      have h := lS_u h e84
      refine lv_istore (lv' := [(11, .int v83), (12, .int v76), (0, .ref (za Z 0)), (1, .int l1), (2, .int l2), (5, .long l5), (7, .int l7), (9, .int l9)]) hx hb dX12_freightOf_370 hl (by decide) rfl (fun ls hl => ?_)
      refine lv_aload_n hx hb dX12_freightOf_372 rfl (lv_at hl 2 rfl) ?_
      refine wr_get (C := RX12) (T := TX12) (N := 41) hx hb hts (in_X12_freightOf_X12) hown hK hP (k := 0) (by decide) ((tM_0 Z) _ _ _) rfl 34 (by decide) (hts (.fieldLink RX12 71 "TuneSearchModel" "goes" "[I") (by decide +kernel)) (fun _ h9 => h9) rfl dX12_freightOf_373 ?_
      refine lv_bipush (v := 24) hx hb dX12_freightOf_376 (by decide) ?_
      refine lv_iload hx hb dX12_freightOf_378 (lv_at hl 0 rfl) ?_
      refine lv_imul hx hb dX12_freightOf_380 ?_
      refine lv_iload hx hb dX12_freightOf_381 (lv_at hl 1 rfl) ?_
      refine lv_iadd hx hb dX12_freightOf_383 ?_
      refine lv_dup2_11 hx hb dX12_freightOf_384 rfl rfl ?_
      obtain ⟨b85, h⟩ := gB_e h
      refine wr_iald hx hb hK hP (k := 19) (by decide) 0 ((tM_19 Z) _ _ _) rfl b85 dX12_freightOf_385 ?_
      refine lv_iload hx hb dX12_freightOf_386 (lv_at hl 7 rfl) ?_
      refine lv_iadd hx hb dX12_freightOf_388 ?_
      obtain ⟨b86, h⟩ := gB_e h
      refine wr_iast hx hb hK hP hJ hS (k := 19) (by decide) 0 (tM_19 Z) rfl b86 dX12_freightOf_389 (fun H locs hP hS => ?_)
      obtain ⟨σ87, e88, h⟩ := lS_e h
      rw [← e88] at hP
      refine lv_goto (tgt := 322) hx hb dX12_freightOf_390 (by decide) ?_
      exact hc322 σ87 l1 l2 l5 l7 l9 v83 h H locs hP hS ls (lv_sub hl [2, 3, 4, 5, 6, 7, 0] rfl)
def m_X12_freightOf_169_s   (c56 : SG → Int32 → Int32 → Int64 → Int32 → Option (Int64 × SG)) (c169 : SG → Int32 → Int32 → Int64 → Int32 → Int32 → Int32 → Int32 → Option (Int64 × SG)) (σ : SG) (l1 : Int32) (l2 : Int32) (l5 : Int64) (l7 : Int32) (l8 : Int32) (l9 : Int32) (l11 : Int32) : Option (Int64 × SG) :=
  gB (inB l11 48) (if (σ.1 22 l11.toNatClampNeg) = (-1) then (gB (inB l11 24) (lS (if (σ.1 17 l11.toNatClampNeg) < l9 then (σ.1 17 l11.toNatClampNeg) else l9) (fun v42 => gB (inB l11 24) (gB (inB l11 24) (lS (sI σ 17 l11.toNatClampNeg ((σ.1 17 l11.toNatClampNeg) - v42)) (fun σ46 => gB (inB l8 24) (gB (inB l8 24) (lS (sI σ46 18 l8.toNatClampNeg ((σ46.1 18 l8.toNatClampNeg) - v42)) (fun σ50 => lS (l7 - v42) (fun v52 => gB (inB (24 + l8) 48) (lS (l5 + (v42.toInt64 * (σ50.2.1 21 (24 + l8).toNatClampNeg))) (fun v55 => gB (inB (24 + l8) 48) (lS (σ50.1 22 (24 + l8).toNatClampNeg) (fun v58 => gB (inB ((24 * v58) + l8) 576) (gB (inB ((24 * v58) + l8) 576) (lS (sI σ50 19 ((24 * v58) + l8).toNatClampNeg ((σ50.1 19 ((24 * v58) + l8).toNatClampNeg) + v42)) (fun σ62 => m_X12_freightOf_322   c56 FV σ62 l1 l2 v55 v52 v42 v58))))))))))))))))) else (gB (inB l11 48) (lS (σ.1 22 l11.toNatClampNeg) (fun v65 => gB (inB ((24 * l11) + v65) 576) (lS (if (σ.1 19 ((24 * l11) + v65).toNatClampNeg) < l9 then (σ.1 19 ((24 * l11) + v65).toNatClampNeg) else l9) (fun v68 => gB (inB (24 + v65) 48) (lS (σ.1 22 (24 + v65).toNatClampNeg) (fun v71 => c169 σ l1 l2 l5 l7 l8 v68 v71))))))))
def m_X12_freightOf_169   (c56 : SG → Int32 → Int32 → Int64 → Int32 → Option (Int64 × SG)) : Nat → SG → Int32 → Int32 → Int64 → Int32 → Int32 → Int32 → Int32 → Option (Int64 × SG)
  | 0, _, _, _, _, _, _, _, _ => none
  | n + 1, σ, l1, l2, l5, l7, l8, l9, l11 => m_X12_freightOf_169_s   c56 (m_X12_freightOf_169   c56 n) σ l1 l2 l5 l7 l8 l9 l11
set_option maxHeartbeats 4000000 in
set_option maxRecDepth 100000 in
theorem kb_X12_freightOf_169 {p : Program} {l : Launch} {e : Env} {s : State} {m : MethodId} {args : Array Value} {below : List Frame} {meth : Method} {c : Code} {E : EF} (Z : ZT)    (C : cy p s m args meth c cX12_freightOf (some .long) 13 RX12 wsX12_freightOf E (zD Z) vwCl 24 (za Z) (tysM Z)) {res : Int64 × SG} {c56 : SG → Int32 → Int32 → Int64 → Int32 → Option (Int64 × SG)} (hc56 : ∀ (σ : SG) (l1 : Int32) (l2 : Int32) (l5 : Int64) (l7 : Int32) , c56 σ l1 l2 l5 l7 = some res → ∀ (H : Heap) (locs : List Loc), ws_P (zD Z) vwCl 24 (za Z) (tM Z) σ H → va_S (ws_A 24 (za Z)) s.heap H locs → ∀ (ls : Array Slot), lv_has ls 13 [(0, .ref (za Z 0)), (1, .int l1), (2, .int l2), (5, .long l5), (7, .int l7)] → W p l e rm_X12_freightOf s m args below meth c H locs 0 0 (MQ below (xQl E (zD Z) vwCl 24 (za Z) (tM Z) (tysM Z) res) args s 0 0 (ws_A 24 (za Z))) (F0 m 56 ls [])) : ∀ (n : Nat) (σ : SG) (l1 : Int32) (l2 : Int32) (l5 : Int64) (l7 : Int32) (l8 : Int32) (l9 : Int32) (l11 : Int32) , m_X12_freightOf_169   c56 n σ l1 l2 l5 l7 l8 l9 l11 = some res → ∀ (H : Heap) (locs : List Loc), ws_P (zD Z) vwCl 24 (za Z) (tM Z) σ H → va_S (ws_A 24 (za Z)) s.heap H locs → ∀ (ls : Array Slot), lv_has ls 13 [(0, .ref (za Z 0)), (1, .int l1), (2, .int l2), (5, .long l5), (7, .int l7), (8, .int l8), (9, .int l9), (11, .int l11)] → W p l e rm_X12_freightOf s m args below meth c H locs 0 0 (MQ below (xQl E (zD Z) vwCl 24 (za Z) (tM Z) (tysM Z) res) args s 0 0 (ws_A 24 (za Z))) (F0 m 169 ls []) := by
  have C0 := C
  obtain ⟨hx, hb, hr, hlocks, hml, hown, hts, hE, hJ, hK⟩ := C0
  intro n
  induction n with
  | zero =>
    intro σ l1 l2 l5 l7 l8 l9 l11  h
    cases h
  | succ n ih =>
    intro σ l1 l2 l5 l7 l8 l9 l11  h H locs hP hS ls hl
    have hc169 : ∀ (σ : SG) (l1 : Int32) (l2 : Int32) (l5 : Int64) (l7 : Int32) (l8 : Int32) (l9 : Int32) (l11 : Int32) , m_X12_freightOf_169   c56 n σ l1 l2 l5 l7 l8 l9 l11 = some res → ∀ (H : Heap) (locs : List Loc), ws_P (zD Z) vwCl 24 (za Z) (tM Z) σ H → va_S (ws_A 24 (za Z)) s.heap H locs → ∀ (ls : Array Slot), lv_has ls 13 [(0, .ref (za Z 0)), (1, .int l1), (2, .int l2), (5, .long l5), (7, .int l7), (8, .int l8), (9, .int l9), (11, .int l11)] → W p l e rm_X12_freightOf s m args below meth c H locs 0 0 (MQ below (xQl E (zD Z) vwCl 24 (za Z) (tM Z) (tysM Z) res) args s 0 0 (ws_A 24 (za Z))) (F0 m 169 ls []) := ih
    have h : m_X12_freightOf_169_s   c56 (m_X12_freightOf_169   c56 n) σ l1 l2 l5 l7 l8 l9 l11 = some res := h
    unfold m_X12_freightOf_169_s at h
    refine lv_aload_n hx hb dX12_freightOf_169 rfl (lv_at hl 0 rfl) ?_
    refine wr_get (C := RX12) (T := TX12) (N := 41) hx hb hts (in_X12_freightOf_X12) hown hK hP (k := 0) (by decide) ((tM_0 Z) _ _ _) rfl 37 (by decide) (hts (.fieldLink RX12 81 "TuneSearchModel" "from" "[I") (by decide +kernel)) (fun _ h9 => h9) rfl dX12_freightOf_170 ?_
    refine lv_iload hx hb dX12_freightOf_173 (lv_at hl 7 rfl) ?_
    obtain ⟨b39, h⟩ := gB_e h
    refine wr_iald hx hb hK hP (k := 22) (by decide) 0 ((tM_22 Z) _ _ _) rfl b39 dX12_freightOf_175 ?_
    refine lv_iconst (v := (-1)) hx hb dX12_freightOf_176 (by decide) ?_
    refine lv_icmp_eq (tgt := 224) hx hb dX12_freightOf_177 (by decide) (fun q40 => ?_) (fun q40 => ?_)
    · have h := if_p h q40
      refine lv_iload hx hb dX12_freightOf_224 (lv_at hl 6 rfl) ?_
      refine lv_aload_n hx hb dX12_freightOf_226 rfl (lv_at hl 0 rfl) ?_
      refine wr_get (C := RX12) (T := TX12) (N := 41) hx hb hts (in_X12_freightOf_X12) hown hK hP (k := 0) (by decide) ((tM_0 Z) _ _ _) rfl 32 (by decide) (hts (.fieldLink RX12 65 "TuneSearchModel" "leftA" "[I") (by decide +kernel)) (fun _ h9 => h9) rfl dX12_freightOf_227 ?_
      refine lv_iload hx hb dX12_freightOf_230 (lv_at hl 7 rfl) ?_
      obtain ⟨b41, h⟩ := gB_e h
      refine wr_iald hx hb hK hP (k := 17) (by decide) 0 ((tM_17 Z) _ _ _) rfl b41 dX12_freightOf_232 ?_
      refine va_mmin hx hb (by rw [hml]; exact hl.1.symm) hown (hts (.methodLink RX12 226 Lib.Math.min.name) (by decide +kernel)) (hts (.static Lib.Math.min.name) (by decide +kernel)) (hts (.initialized "java/lang/Math") (by decide +kernel)) (hts (.code Lib.Math.min.name Lib.Math.min.code 2 (some .int)) (by decide +kernel)) (Nat.le_of_ble_eq_true rfl) (Nat.le_of_ble_eq_true rfl) (Nat.le_of_ble_eq_true rfl) (Nat.le_of_ble_eq_true rfl) dX12_freightOf_233 ?_
      refine lv_topi (fun v42 e43 => ?_)
      have h := lS_u h e43
      refine lv_istore (lv' := [(9, .int v42), (0, .ref (za Z 0)), (1, .int l1), (2, .int l2), (5, .long l5), (7, .int l7), (8, .int l8), (11, .int l11)]) hx hb dX12_freightOf_236 hl (by decide) rfl (fun ls hl => ?_)
      refine lv_aload_n hx hb dX12_freightOf_238 rfl (lv_at hl 1 rfl) ?_
      refine wr_get (C := RX12) (T := TX12) (N := 41) hx hb hts (in_X12_freightOf_X12) hown hK hP (k := 0) (by decide) ((tM_0 Z) _ _ _) rfl 32 (by decide) (hts (.fieldLink RX12 65 "TuneSearchModel" "leftA" "[I") (by decide +kernel)) (fun _ h9 => h9) rfl dX12_freightOf_239 ?_
      refine lv_iload hx hb dX12_freightOf_242 (lv_at hl 7 rfl) ?_
      refine lv_dup2_11 hx hb dX12_freightOf_244 rfl rfl ?_
      obtain ⟨b44, h⟩ := gB_e h
      refine wr_iald hx hb hK hP (k := 17) (by decide) 0 ((tM_17 Z) _ _ _) rfl b44 dX12_freightOf_245 ?_
      refine lv_iload hx hb dX12_freightOf_246 (lv_at hl 0 rfl) ?_
      refine lv_isub hx hb dX12_freightOf_248 ?_
      obtain ⟨b45, h⟩ := gB_e h
      refine wr_iast hx hb hK hP hJ hS (k := 17) (by decide) 0 (tM_17 Z) rfl b45 dX12_freightOf_249 (fun H locs hP hS => ?_)
      obtain ⟨σ46, e47, h⟩ := lS_e h
      rw [← e47] at hP
      refine lv_aload_n hx hb dX12_freightOf_250 rfl (lv_at hl 1 rfl) ?_
      refine wr_get (C := RX12) (T := TX12) (N := 41) hx hb hts (in_X12_freightOf_X12) hown hK hP (k := 0) (by decide) ((tM_0 Z) _ _ _) rfl 33 (by decide) (hts (.fieldLink RX12 68 "TuneSearchModel" "leftB" "[I") (by decide +kernel)) (fun _ h9 => h9) rfl dX12_freightOf_251 ?_
      refine lv_iload hx hb dX12_freightOf_254 (lv_at hl 6 rfl) ?_
      refine lv_dup2_11 hx hb dX12_freightOf_256 rfl rfl ?_
      obtain ⟨b48, h⟩ := gB_e h
      refine wr_iald hx hb hK hP (k := 18) (by decide) 0 ((tM_18 Z) _ _ _) rfl b48 dX12_freightOf_257 ?_
      refine lv_iload hx hb dX12_freightOf_258 (lv_at hl 0 rfl) ?_
      refine lv_isub hx hb dX12_freightOf_260 ?_
      obtain ⟨b49, h⟩ := gB_e h
      refine wr_iast hx hb hK hP hJ hS (k := 18) (by decide) 0 (tM_18 Z) rfl b49 dX12_freightOf_261 (fun H locs hP hS => ?_)
      obtain ⟨σ50, e51, h⟩ := lS_e h
      rw [← e51] at hP
      refine lv_iload hx hb dX12_freightOf_262 (lv_at hl 5 rfl) ?_
      refine lv_iload hx hb dX12_freightOf_264 (lv_at hl 0 rfl) ?_
      refine lv_isub hx hb dX12_freightOf_266 ?_
      refine lv_topi (fun v52 e53 => ?_)
      have h := lS_u h e53
      refine lv_istore (lv' := [(7, .int v52), (9, .int v42), (0, .ref (za Z 0)), (1, .int l1), (2, .int l2), (5, .long l5), (8, .int l8), (11, .int l11)]) hx hb dX12_freightOf_267 hl (by decide) rfl (fun ls hl => ?_)
      refine lv_lload hx hb dX12_freightOf_269 (lv_at hl 5 rfl) ?_
      refine lv_iload hx hb dX12_freightOf_271 (lv_at hl 1 rfl) ?_
      refine lv_i2l hx hb dX12_freightOf_273 rfl ?_
      refine lv_aload_n hx hb dX12_freightOf_274 rfl (lv_at hl 2 rfl) ?_
      refine wr_get (C := RX12) (T := TX12) (N := 41) hx hb hts (in_X12_freightOf_X12) hown hK hP (k := 0) (by decide) ((tM_0 Z) _ _ _) rfl 36 (by decide) (hts (.fieldLink RX12 78 "TuneSearchModel" "reach" "[J") (by decide +kernel)) (fun _ h9 => h9) rfl dX12_freightOf_275 ?_
      refine lv_bipush (v := 24) hx hb dX12_freightOf_278 (by decide) ?_
      refine lv_iload hx hb dX12_freightOf_280 (lv_at hl 6 rfl) ?_
      refine lv_iadd hx hb dX12_freightOf_282 ?_
      obtain ⟨b54, h⟩ := gB_e h
      refine wr_lald hx hb hK hP (k := 21) (by decide) 1 ((tM_21 Z) _ _ _) rfl b54 dX12_freightOf_283 ?_
      refine lv_lmul hx hb dX12_freightOf_284 ?_
      refine lv_ladd hx hb dX12_freightOf_285 ?_
      refine lv_topl (fun v55 e56 => ?_)
      have h := lS_u h e56
      refine lv_lstore (lv' := [(5, .long v55), (7, .int v52), (9, .int v42), (0, .ref (za Z 0)), (1, .int l1), (2, .int l2), (8, .int l8), (11, .int l11)]) hx hb dX12_freightOf_286 hl (by decide) rfl (fun ls hl => ?_)
      refine lv_iload hx hb dX12_freightOf_288 (lv_at hl 6 rfl) ?_
      refine lv_istore (lv' := [(10, .int l8), (5, .long v55), (7, .int v52), (9, .int v42), (0, .ref (za Z 0)), (1, .int l1), (2, .int l2), (8, .int l8), (11, .int l11)]) hx hb dX12_freightOf_290 hl (by decide) rfl (fun ls hl => ?_)
      refine lv_aload_n hx hb dX12_freightOf_292 rfl (lv_at hl 4 rfl) ?_
      refine wr_get (C := RX12) (T := TX12) (N := 41) hx hb hts (in_X12_freightOf_X12) hown hK hP (k := 0) (by decide) ((tM_0 Z) _ _ _) rfl 37 (by decide) (hts (.fieldLink RX12 81 "TuneSearchModel" "from" "[I") (by decide +kernel)) (fun _ h9 => h9) rfl dX12_freightOf_293 ?_
      refine lv_bipush (v := 24) hx hb dX12_freightOf_296 (by decide) ?_
      refine lv_iload hx hb dX12_freightOf_298 (lv_at hl 0 rfl) ?_
      refine lv_iadd hx hb dX12_freightOf_300 ?_
      obtain ⟨b57, h⟩ := gB_e h
      refine wr_iald hx hb hK hP (k := 22) (by decide) 0 ((tM_22 Z) _ _ _) rfl b57 dX12_freightOf_301 ?_
      refine lv_topi (fun v58 e59 => ?_)
      have h := lS_u h e59
      refine lv_istore (lv' := [(11, .int v58), (10, .int l8), (5, .long v55), (7, .int v52), (9, .int v42), (0, .ref (za Z 0)), (1, .int l1), (2, .int l2), (8, .int l8)]) hx hb dX12_freightOf_302 hl (by decide) rfl (fun ls hl => ?_)
      refine lv_aload_n hx hb dX12_freightOf_304 rfl (lv_at hl 5 rfl) ?_
      refine wr_get (C := RX12) (T := TX12) (N := 41) hx hb hts (in_X12_freightOf_X12) hown hK hP (k := 0) (by decide) ((tM_0 Z) _ _ _) rfl 34 (by decide) (hts (.fieldLink RX12 71 "TuneSearchModel" "goes" "[I") (by decide +kernel)) (fun _ h9 => h9) rfl dX12_freightOf_305 ?_
      refine lv_bipush (v := 24) hx hb dX12_freightOf_308 (by decide) ?_
      refine lv_iload hx hb dX12_freightOf_310 (lv_at hl 0 rfl) ?_
      refine lv_imul hx hb dX12_freightOf_312 ?_
      refine lv_iload hx hb dX12_freightOf_313 (lv_at hl 1 rfl) ?_
      refine lv_iadd hx hb dX12_freightOf_315 ?_
      refine lv_dup2_11 hx hb dX12_freightOf_316 rfl rfl ?_
      obtain ⟨b60, h⟩ := gB_e h
      refine wr_iald hx hb hK hP (k := 19) (by decide) 0 ((tM_19 Z) _ _ _) rfl b60 dX12_freightOf_317 ?_
      refine lv_iload hx hb dX12_freightOf_318 (lv_at hl 4 rfl) ?_
      refine lv_iadd hx hb dX12_freightOf_320 ?_
      obtain ⟨b61, h⟩ := gB_e h
      refine wr_iast hx hb hK hP hJ hS (k := 19) (by decide) 0 (tM_19 Z) rfl b61 dX12_freightOf_321 (fun H locs hP hS => ?_)
      obtain ⟨σ62, e63, h⟩ := lS_e h
      rw [← e63] at hP
      exact kb_X12_freightOf_322 Z    C  hc56 FV σ62 l1 l2 v55 v52 v42 v58 h H locs hP hS ls (lv_sub hl [5, 6, 7, 2, 3, 4, 0] rfl)
    · have h := if_n h q40
      refine lv_aload_n hx hb dX12_freightOf_180 rfl (lv_at hl 0 rfl) ?_
      refine wr_get (C := RX12) (T := TX12) (N := 41) hx hb hts (in_X12_freightOf_X12) hown hK hP (k := 0) (by decide) ((tM_0 Z) _ _ _) rfl 37 (by decide) (hts (.fieldLink RX12 81 "TuneSearchModel" "from" "[I") (by decide +kernel)) (fun _ h9 => h9) rfl dX12_freightOf_181 ?_
      refine lv_iload hx hb dX12_freightOf_184 (lv_at hl 7 rfl) ?_
      obtain ⟨b64, h⟩ := gB_e h
      refine wr_iald hx hb hK hP (k := 22) (by decide) 0 ((tM_22 Z) _ _ _) rfl b64 dX12_freightOf_186 ?_
      refine lv_topi (fun v65 e66 => ?_)
      have h := lS_u h e66
      refine lv_istore (lv' := [(12, .int v65), (0, .ref (za Z 0)), (1, .int l1), (2, .int l2), (5, .long l5), (7, .int l7), (8, .int l8), (9, .int l9), (11, .int l11)]) hx hb dX12_freightOf_187 hl (by decide) rfl (fun ls hl => ?_)
      refine lv_iload hx hb dX12_freightOf_189 (lv_at hl 7 rfl) ?_
      refine lv_aload_n hx hb dX12_freightOf_191 rfl (lv_at hl 1 rfl) ?_
      refine wr_get (C := RX12) (T := TX12) (N := 41) hx hb hts (in_X12_freightOf_X12) hown hK hP (k := 0) (by decide) ((tM_0 Z) _ _ _) rfl 34 (by decide) (hts (.fieldLink RX12 71 "TuneSearchModel" "goes" "[I") (by decide +kernel)) (fun _ h9 => h9) rfl dX12_freightOf_192 ?_
      refine lv_bipush (v := 24) hx hb dX12_freightOf_195 (by decide) ?_
      refine lv_iload hx hb dX12_freightOf_197 (lv_at hl 8 rfl) ?_
      refine lv_imul hx hb dX12_freightOf_199 ?_
      refine lv_iload hx hb dX12_freightOf_200 (lv_at hl 0 rfl) ?_
      refine lv_iadd hx hb dX12_freightOf_202 ?_
      obtain ⟨b67, h⟩ := gB_e h
      refine wr_iald hx hb hK hP (k := 19) (by decide) 0 ((tM_19 Z) _ _ _) rfl b67 dX12_freightOf_203 ?_
      refine va_mmin hx hb (by rw [hml]; exact hl.1.symm) hown (hts (.methodLink RX12 226 Lib.Math.min.name) (by decide +kernel)) (hts (.static Lib.Math.min.name) (by decide +kernel)) (hts (.initialized "java/lang/Math") (by decide +kernel)) (hts (.code Lib.Math.min.name Lib.Math.min.code 2 (some .int)) (by decide +kernel)) (Nat.le_of_ble_eq_true rfl) (Nat.le_of_ble_eq_true rfl) (Nat.le_of_ble_eq_true rfl) (Nat.le_of_ble_eq_true rfl) dX12_freightOf_204 ?_
      refine lv_topi (fun v68 e69 => ?_)
      have h := lS_u h e69
      refine lv_istore (lv' := [(9, .int v68), (12, .int v65), (0, .ref (za Z 0)), (1, .int l1), (2, .int l2), (5, .long l5), (7, .int l7), (8, .int l8), (11, .int l11)]) hx hb dX12_freightOf_207 hl (by decide) rfl (fun ls hl => ?_)
      refine lv_aload_n hx hb dX12_freightOf_209 rfl (lv_at hl 2 rfl) ?_
      refine wr_get (C := RX12) (T := TX12) (N := 41) hx hb hts (in_X12_freightOf_X12) hown hK hP (k := 0) (by decide) ((tM_0 Z) _ _ _) rfl 37 (by decide) (hts (.fieldLink RX12 81 "TuneSearchModel" "from" "[I") (by decide +kernel)) (fun _ h9 => h9) rfl dX12_freightOf_210 ?_
      refine lv_bipush (v := 24) hx hb dX12_freightOf_213 (by decide) ?_
      refine lv_iload hx hb dX12_freightOf_215 (lv_at hl 1 rfl) ?_
      refine lv_iadd hx hb dX12_freightOf_217 ?_
      obtain ⟨b70, h⟩ := gB_e h
      refine wr_iald hx hb hK hP (k := 22) (by decide) 0 ((tM_22 Z) _ _ _) rfl b70 dX12_freightOf_218 ?_
      refine lv_topi (fun v71 e72 => ?_)
      have h := lS_u h e72
      refine lv_istore (lv' := [(11, .int v71), (9, .int v68), (12, .int v65), (0, .ref (za Z 0)), (1, .int l1), (2, .int l2), (5, .long l5), (7, .int l7), (8, .int l8)]) hx hb dX12_freightOf_219 hl (by decide) rfl (fun ls hl => ?_)
      refine lv_goto (tgt := 169) hx hb dX12_freightOf_221 (by decide) ?_
      exact hc169 σ l1 l2 l5 l7 l8 v68 v71 h H locs hP hS ls (lv_sub hl [3, 4, 5, 6, 7, 8, 1, 0] rfl)
def m_X12_freightOf_131   (c56 : SG → Int32 → Int32 → Int64 → Int32 → Option (Int64 × SG)) (c73 : SG → Int32 → Int32 → Int64 → Int32 → Int32 → Int32 → Option (Int64 × SG)) (σ : SG) (l1 : Int32) (l2 : Int32) (l5 : Int64) (l7 : Int32) (l9 : Int32) (s0 : Int32) : Option (Int64 × SG) :=
  lS (l9 + 1) (fun v89 => c73 σ l1 l2 l5 l7 s0 v89)
set_option maxHeartbeats 4000000 in
set_option maxRecDepth 100000 in
theorem kb_X12_freightOf_131 {p : Program} {l : Launch} {e : Env} {s : State} {m : MethodId} {args : Array Value} {below : List Frame} {meth : Method} {c : Code} {E : EF} (Z : ZT)    (C : cy p s m args meth c cX12_freightOf (some .long) 13 RX12 wsX12_freightOf E (zD Z) vwCl 24 (za Z) (tysM Z)) {res : Int64 × SG} {c56 : SG → Int32 → Int32 → Int64 → Int32 → Option (Int64 × SG)} {c73 : SG → Int32 → Int32 → Int64 → Int32 → Int32 → Int32 → Option (Int64 × SG)} (hc56 : ∀ (σ : SG) (l1 : Int32) (l2 : Int32) (l5 : Int64) (l7 : Int32) , c56 σ l1 l2 l5 l7 = some res → ∀ (H : Heap) (locs : List Loc), ws_P (zD Z) vwCl 24 (za Z) (tM Z) σ H → va_S (ws_A 24 (za Z)) s.heap H locs → ∀ (ls : Array Slot), lv_has ls 13 [(0, .ref (za Z 0)), (1, .int l1), (2, .int l2), (5, .long l5), (7, .int l7)] → W p l e rm_X12_freightOf s m args below meth c H locs 0 0 (MQ below (xQl E (zD Z) vwCl 24 (za Z) (tM Z) (tysM Z) res) args s 0 0 (ws_A 24 (za Z))) (F0 m 56 ls [])) (hc73 : ∀ (σ : SG) (l1 : Int32) (l2 : Int32) (l5 : Int64) (l7 : Int32) (l8 : Int32) (l9 : Int32) , c73 σ l1 l2 l5 l7 l8 l9 = some res → ∀ (H : Heap) (locs : List Loc), ws_P (zD Z) vwCl 24 (za Z) (tM Z) σ H → va_S (ws_A 24 (za Z)) s.heap H locs → ∀ (ls : Array Slot), lv_has ls 13 [(0, .ref (za Z 0)), (1, .int l1), (2, .int l2), (5, .long l5), (7, .int l7), (8, .int l8), (9, .int l9)] → W p l e rm_X12_freightOf s m args below meth c H locs 0 0 (MQ below (xQl E (zD Z) vwCl 24 (za Z) (tM Z) (tysM Z) res) args s 0 0 (ws_A 24 (za Z))) (F0 m 73 ls [])) : ∀ (σ : SG) (l1 : Int32) (l2 : Int32) (l5 : Int64) (l7 : Int32) (l9 : Int32) (s0 : Int32) , m_X12_freightOf_131   c56 c73 σ l1 l2 l5 l7 l9 s0 = some res → ∀ (H : Heap) (locs : List Loc), ws_P (zD Z) vwCl 24 (za Z) (tM Z) σ H → va_S (ws_A 24 (za Z)) s.heap H locs → ∀ (ls : Array Slot), lv_has ls 13 [(0, .ref (za Z 0)), (1, .int l1), (2, .int l2), (5, .long l5), (7, .int l7), (9, .int l9)] → W p l e rm_X12_freightOf s m args below meth c H locs 0 0 (MQ below (xQl E (zD Z) vwCl 24 (za Z) (tM Z) (tysM Z) res) args s 0 0 (ws_A 24 (za Z))) (F0 m 131 ls [.int s0]) := by
  have C0 := C
  obtain ⟨hx, hb, hr, hlocks, hml, hown, hts, hE, hJ, hK⟩ := C0
  intro σ l1 l2 l5 l7 l9 s0  h H locs hP hS ls hl
  unfold m_X12_freightOf_131 at h
  refine lv_istore (lv' := [(8, .int s0), (0, .ref (za Z 0)), (1, .int l1), (2, .int l2), (5, .long l5), (7, .int l7), (9, .int l9)]) hx hb dX12_freightOf_131 hl (by decide) rfl (fun ls hl => ?_)
  obtain ⟨v89, e90, h⟩ := lS_e h
  refine lv_iinc (v := v89) (lv' := [(9, .int v89), (8, .int s0), (0, .ref (za Z 0)), (1, .int l1), (2, .int l2), (5, .long l5), (7, .int l7)]) hx hb dX12_freightOf_133 hl (k := 6) rfl (by rw [e90]; rfl) (by decide) rfl (fun ls hl => ?_)
  refine lv_goto (tgt := 73) hx hb dX12_freightOf_136 (by decide) ?_
  exact hc73 σ l1 l2 l5 l7 s0 v89 h H locs hP hS ls (lv_sub hl [2, 3, 4, 5, 6, 1, 0] rfl)
def m_X12_freightOf_129   (c56 : SG → Int32 → Int32 → Int64 → Int32 → Option (Int64 × SG)) (c73 : SG → Int32 → Int32 → Int64 → Int32 → Int32 → Int32 → Option (Int64 × SG)) (σ : SG) (l1 : Int32) (l2 : Int32) (l5 : Int64) (l7 : Int32) (l8 : Int32) (l9 : Int32) : Option (Int64 × SG) :=
  m_X12_freightOf_131   c56 c73 σ l1 l2 l5 l7 l9 l8
set_option maxHeartbeats 4000000 in
set_option maxRecDepth 100000 in
theorem kb_X12_freightOf_129 {p : Program} {l : Launch} {e : Env} {s : State} {m : MethodId} {args : Array Value} {below : List Frame} {meth : Method} {c : Code} {E : EF} (Z : ZT)    (C : cy p s m args meth c cX12_freightOf (some .long) 13 RX12 wsX12_freightOf E (zD Z) vwCl 24 (za Z) (tysM Z)) {res : Int64 × SG} {c56 : SG → Int32 → Int32 → Int64 → Int32 → Option (Int64 × SG)} {c73 : SG → Int32 → Int32 → Int64 → Int32 → Int32 → Int32 → Option (Int64 × SG)} (hc56 : ∀ (σ : SG) (l1 : Int32) (l2 : Int32) (l5 : Int64) (l7 : Int32) , c56 σ l1 l2 l5 l7 = some res → ∀ (H : Heap) (locs : List Loc), ws_P (zD Z) vwCl 24 (za Z) (tM Z) σ H → va_S (ws_A 24 (za Z)) s.heap H locs → ∀ (ls : Array Slot), lv_has ls 13 [(0, .ref (za Z 0)), (1, .int l1), (2, .int l2), (5, .long l5), (7, .int l7)] → W p l e rm_X12_freightOf s m args below meth c H locs 0 0 (MQ below (xQl E (zD Z) vwCl 24 (za Z) (tM Z) (tysM Z) res) args s 0 0 (ws_A 24 (za Z))) (F0 m 56 ls [])) (hc73 : ∀ (σ : SG) (l1 : Int32) (l2 : Int32) (l5 : Int64) (l7 : Int32) (l8 : Int32) (l9 : Int32) , c73 σ l1 l2 l5 l7 l8 l9 = some res → ∀ (H : Heap) (locs : List Loc), ws_P (zD Z) vwCl 24 (za Z) (tM Z) σ H → va_S (ws_A 24 (za Z)) s.heap H locs → ∀ (ls : Array Slot), lv_has ls 13 [(0, .ref (za Z 0)), (1, .int l1), (2, .int l2), (5, .long l5), (7, .int l7), (8, .int l8), (9, .int l9)] → W p l e rm_X12_freightOf s m args below meth c H locs 0 0 (MQ below (xQl E (zD Z) vwCl 24 (za Z) (tM Z) (tysM Z) res) args s 0 0 (ws_A 24 (za Z))) (F0 m 73 ls [])) : ∀ (σ : SG) (l1 : Int32) (l2 : Int32) (l5 : Int64) (l7 : Int32) (l8 : Int32) (l9 : Int32) , m_X12_freightOf_129   c56 c73 σ l1 l2 l5 l7 l8 l9 = some res → ∀ (H : Heap) (locs : List Loc), ws_P (zD Z) vwCl 24 (za Z) (tM Z) σ H → va_S (ws_A 24 (za Z)) s.heap H locs → ∀ (ls : Array Slot), lv_has ls 13 [(0, .ref (za Z 0)), (1, .int l1), (2, .int l2), (5, .long l5), (7, .int l7), (8, .int l8), (9, .int l9)] → W p l e rm_X12_freightOf s m args below meth c H locs 0 0 (MQ below (xQl E (zD Z) vwCl 24 (za Z) (tM Z) (tysM Z) res) args s 0 0 (ws_A 24 (za Z))) (F0 m 129 ls []) := by
  have C0 := C
  obtain ⟨hx, hb, hr, hlocks, hml, hown, hts, hE, hJ, hK⟩ := C0
  intro σ l1 l2 l5 l7 l8 l9  h H locs hP hS ls hl
  unfold m_X12_freightOf_129 at h
  refine lv_iload hx hb dX12_freightOf_129 (lv_at hl 5 rfl) ?_
  exact kb_X12_freightOf_131 Z    C  hc56 hc73 σ l1 l2 l5 l7 l9 l8 h H locs hP hS ls (lv_sub hl [0, 1, 2, 3, 4, 6] rfl)
def m_X12_freightOf_124   (c56 : SG → Int32 → Int32 → Int64 → Int32 → Option (Int64 × SG)) (c73 : SG → Int32 → Int32 → Int64 → Int32 → Int32 → Int32 → Option (Int64 × SG)) (σ : SG) (l1 : Int32) (l2 : Int32) (l5 : Int64) (l7 : Int32) (l9 : Int32) : Option (Int64 × SG) :=
  m_X12_freightOf_131   c56 c73 σ l1 l2 l5 l7 l9 l9
set_option maxHeartbeats 4000000 in
set_option maxRecDepth 100000 in
theorem kb_X12_freightOf_124 {p : Program} {l : Launch} {e : Env} {s : State} {m : MethodId} {args : Array Value} {below : List Frame} {meth : Method} {c : Code} {E : EF} (Z : ZT)    (C : cy p s m args meth c cX12_freightOf (some .long) 13 RX12 wsX12_freightOf E (zD Z) vwCl 24 (za Z) (tysM Z)) {res : Int64 × SG} {c56 : SG → Int32 → Int32 → Int64 → Int32 → Option (Int64 × SG)} {c73 : SG → Int32 → Int32 → Int64 → Int32 → Int32 → Int32 → Option (Int64 × SG)} (hc56 : ∀ (σ : SG) (l1 : Int32) (l2 : Int32) (l5 : Int64) (l7 : Int32) , c56 σ l1 l2 l5 l7 = some res → ∀ (H : Heap) (locs : List Loc), ws_P (zD Z) vwCl 24 (za Z) (tM Z) σ H → va_S (ws_A 24 (za Z)) s.heap H locs → ∀ (ls : Array Slot), lv_has ls 13 [(0, .ref (za Z 0)), (1, .int l1), (2, .int l2), (5, .long l5), (7, .int l7)] → W p l e rm_X12_freightOf s m args below meth c H locs 0 0 (MQ below (xQl E (zD Z) vwCl 24 (za Z) (tM Z) (tysM Z) res) args s 0 0 (ws_A 24 (za Z))) (F0 m 56 ls [])) (hc73 : ∀ (σ : SG) (l1 : Int32) (l2 : Int32) (l5 : Int64) (l7 : Int32) (l8 : Int32) (l9 : Int32) , c73 σ l1 l2 l5 l7 l8 l9 = some res → ∀ (H : Heap) (locs : List Loc), ws_P (zD Z) vwCl 24 (za Z) (tM Z) σ H → va_S (ws_A 24 (za Z)) s.heap H locs → ∀ (ls : Array Slot), lv_has ls 13 [(0, .ref (za Z 0)), (1, .int l1), (2, .int l2), (5, .long l5), (7, .int l7), (8, .int l8), (9, .int l9)] → W p l e rm_X12_freightOf s m args below meth c H locs 0 0 (MQ below (xQl E (zD Z) vwCl 24 (za Z) (tM Z) (tysM Z) res) args s 0 0 (ws_A 24 (za Z))) (F0 m 73 ls [])) : ∀ (σ : SG) (l1 : Int32) (l2 : Int32) (l5 : Int64) (l7 : Int32) (l9 : Int32) , m_X12_freightOf_124   c56 c73 σ l1 l2 l5 l7 l9 = some res → ∀ (H : Heap) (locs : List Loc), ws_P (zD Z) vwCl 24 (za Z) (tM Z) σ H → va_S (ws_A 24 (za Z)) s.heap H locs → ∀ (ls : Array Slot), lv_has ls 13 [(0, .ref (za Z 0)), (1, .int l1), (2, .int l2), (5, .long l5), (7, .int l7), (9, .int l9)] → W p l e rm_X12_freightOf s m args below meth c H locs 0 0 (MQ below (xQl E (zD Z) vwCl 24 (za Z) (tM Z) (tysM Z) res) args s 0 0 (ws_A 24 (za Z))) (F0 m 124 ls []) := by
  have C0 := C
  obtain ⟨hx, hb, hr, hlocks, hml, hown, hts, hE, hJ, hK⟩ := C0
  intro σ l1 l2 l5 l7 l9  h H locs hP hS ls hl
  unfold m_X12_freightOf_124 at h
  refine lv_iload hx hb dX12_freightOf_124 (lv_at hl 5 rfl) ?_
  refine lv_goto (tgt := 131) hx hb dX12_freightOf_126 (by decide) ?_
  exact kb_X12_freightOf_131 Z    C  hc56 hc73 σ l1 l2 l5 l7 l9 l9 h H locs hP hS ls (lv_sub hl [0, 1, 2, 3, 4, 5] rfl)
def m_X12_freightOf_73_s   (c56 : SG → Int32 → Int32 → Int64 → Int32 → Option (Int64 × SG)) (c73 : SG → Int32 → Int32 → Int64 → Int32 → Int32 → Int32 → Option (Int64 × SG)) (σ : SG) (l1 : Int32) (l2 : Int32) (l5 : Int64) (l7 : Int32) (l8 : Int32) (l9 : Int32) : Option (Int64 × SG) :=
  gB (inB l2 9) (if (σ.1 3 l2.toNatClampNeg) ≤ l9 then (gB (inB l8 24) (lS (if (σ.1 18 l8.toNatClampNeg) < l7 then (σ.1 18 l8.toNatClampNeg) else l7) (fun v28 => gB (inB (24 + l8) 48) (lS (σ.1 22 (24 + l8).toNatClampNeg) (fun v31 => m_X12_freightOf_169   c56 FV σ l1 l2 l5 l7 l8 v28 v31))))) else (gB (inB l9 24) (if (σ.1 18 l9.toNatClampNeg) ≤ 0 then (m_X12_freightOf_129   c56 c73 σ l1 l2 l5 l7 l8 l9) else (if l8 = (-1) then (m_X12_freightOf_124   c56 c73 σ l1 l2 l5 l7 l9) else (gB (inB (24 + l9) 48) (gB (inB (24 + l8) 48) (if 0 ≤ (lg_cmp (σ.2.1 21 (24 + l9).toNatClampNeg) (σ.2.1 21 (24 + l8).toNatClampNeg)) then (m_X12_freightOf_129   c56 c73 σ l1 l2 l5 l7 l8 l9) else (m_X12_freightOf_124   c56 c73 σ l1 l2 l5 l7 l9))))))))
def m_X12_freightOf_73   (c56 : SG → Int32 → Int32 → Int64 → Int32 → Option (Int64 × SG)) : Nat → SG → Int32 → Int32 → Int64 → Int32 → Int32 → Int32 → Option (Int64 × SG)
  | 0, _, _, _, _, _, _, _ => none
  | n + 1, σ, l1, l2, l5, l7, l8, l9 => m_X12_freightOf_73_s   c56 (m_X12_freightOf_73   c56 n) σ l1 l2 l5 l7 l8 l9
set_option maxHeartbeats 4000000 in
set_option maxRecDepth 100000 in
theorem kb_X12_freightOf_73 {p : Program} {l : Launch} {e : Env} {s : State} {m : MethodId} {args : Array Value} {below : List Frame} {meth : Method} {c : Code} {E : EF} (Z : ZT)    (C : cy p s m args meth c cX12_freightOf (some .long) 13 RX12 wsX12_freightOf E (zD Z) vwCl 24 (za Z) (tysM Z)) {res : Int64 × SG} {c56 : SG → Int32 → Int32 → Int64 → Int32 → Option (Int64 × SG)} (hc56 : ∀ (σ : SG) (l1 : Int32) (l2 : Int32) (l5 : Int64) (l7 : Int32) , c56 σ l1 l2 l5 l7 = some res → ∀ (H : Heap) (locs : List Loc), ws_P (zD Z) vwCl 24 (za Z) (tM Z) σ H → va_S (ws_A 24 (za Z)) s.heap H locs → ∀ (ls : Array Slot), lv_has ls 13 [(0, .ref (za Z 0)), (1, .int l1), (2, .int l2), (5, .long l5), (7, .int l7)] → W p l e rm_X12_freightOf s m args below meth c H locs 0 0 (MQ below (xQl E (zD Z) vwCl 24 (za Z) (tM Z) (tysM Z) res) args s 0 0 (ws_A 24 (za Z))) (F0 m 56 ls [])) : ∀ (n : Nat) (σ : SG) (l1 : Int32) (l2 : Int32) (l5 : Int64) (l7 : Int32) (l8 : Int32) (l9 : Int32) , m_X12_freightOf_73   c56 n σ l1 l2 l5 l7 l8 l9 = some res → ∀ (H : Heap) (locs : List Loc), ws_P (zD Z) vwCl 24 (za Z) (tM Z) σ H → va_S (ws_A 24 (za Z)) s.heap H locs → ∀ (ls : Array Slot), lv_has ls 13 [(0, .ref (za Z 0)), (1, .int l1), (2, .int l2), (5, .long l5), (7, .int l7), (8, .int l8), (9, .int l9)] → W p l e rm_X12_freightOf s m args below meth c H locs 0 0 (MQ below (xQl E (zD Z) vwCl 24 (za Z) (tM Z) (tysM Z) res) args s 0 0 (ws_A 24 (za Z))) (F0 m 73 ls []) := by
  have C0 := C
  obtain ⟨hx, hb, hr, hlocks, hml, hown, hts, hE, hJ, hK⟩ := C0
  intro n
  induction n with
  | zero =>
    intro σ l1 l2 l5 l7 l8 l9  h
    cases h
  | succ n ih =>
    intro σ l1 l2 l5 l7 l8 l9  h H locs hP hS ls hl
    have hc73 : ∀ (σ : SG) (l1 : Int32) (l2 : Int32) (l5 : Int64) (l7 : Int32) (l8 : Int32) (l9 : Int32) , m_X12_freightOf_73   c56 n σ l1 l2 l5 l7 l8 l9 = some res → ∀ (H : Heap) (locs : List Loc), ws_P (zD Z) vwCl 24 (za Z) (tM Z) σ H → va_S (ws_A 24 (za Z)) s.heap H locs → ∀ (ls : Array Slot), lv_has ls 13 [(0, .ref (za Z 0)), (1, .int l1), (2, .int l2), (5, .long l5), (7, .int l7), (8, .int l8), (9, .int l9)] → W p l e rm_X12_freightOf s m args below meth c H locs 0 0 (MQ below (xQl E (zD Z) vwCl 24 (za Z) (tM Z) (tysM Z) res) args s 0 0 (ws_A 24 (za Z))) (F0 m 73 ls []) := ih
    have h : m_X12_freightOf_73_s   c56 (m_X12_freightOf_73   c56 n) σ l1 l2 l5 l7 l8 l9 = some res := h
    unfold m_X12_freightOf_73_s at h
    refine lv_iload hx hb dX12_freightOf_73 (lv_at hl 6 rfl) ?_
    refine lv_aload_n hx hb dX12_freightOf_75 rfl (lv_at hl 0 rfl) ?_
    refine wr_get (C := RX12) (T := TX12) (N := 41) hx hb hts (in_X12_freightOf_X12) hown hK hP (k := 0) (by decide) ((tM_0 Z) _ _ _) rfl 3 (by decide) (hts (.fieldLink RX12 18 "TuneSearchModel" "size" "[I") (by decide +kernel)) (fun _ h9 => h9) rfl dX12_freightOf_76 ?_
    refine lv_iload_n hx hb dX12_freightOf_79 rfl (lv_at hl 2 rfl) ?_
    obtain ⟨b25, h⟩ := gB_e h
    refine wr_iald hx hb hK hP (k := 3) (by decide) 0 ((tM_3 Z) _ _ _) rfl b25 dX12_freightOf_80 ?_
    refine lv_icmp_ge (tgt := 139) hx hb dX12_freightOf_81 (by decide) (fun q26 => ?_) (fun q26 => ?_)
    · have h := if_p h q26
      refine lv_iload hx hb dX12_freightOf_139 (lv_at hl 4 rfl) ?_
      refine lv_aload_n hx hb dX12_freightOf_141 rfl (lv_at hl 0 rfl) ?_
      refine wr_get (C := RX12) (T := TX12) (N := 41) hx hb hts (in_X12_freightOf_X12) hown hK hP (k := 0) (by decide) ((tM_0 Z) _ _ _) rfl 33 (by decide) (hts (.fieldLink RX12 68 "TuneSearchModel" "leftB" "[I") (by decide +kernel)) (fun _ h9 => h9) rfl dX12_freightOf_142 ?_
      refine lv_iload hx hb dX12_freightOf_145 (lv_at hl 5 rfl) ?_
      obtain ⟨b27, h⟩ := gB_e h
      refine wr_iald hx hb hK hP (k := 18) (by decide) 0 ((tM_18 Z) _ _ _) rfl b27 dX12_freightOf_147 ?_
      refine va_mmin hx hb (by rw [hml]; exact hl.1.symm) hown (hts (.methodLink RX12 226 Lib.Math.min.name) (by decide +kernel)) (hts (.static Lib.Math.min.name) (by decide +kernel)) (hts (.initialized "java/lang/Math") (by decide +kernel)) (hts (.code Lib.Math.min.name Lib.Math.min.code 2 (some .int)) (by decide +kernel)) (Nat.le_of_ble_eq_true rfl) (Nat.le_of_ble_eq_true rfl) (Nat.le_of_ble_eq_true rfl) (Nat.le_of_ble_eq_true rfl) dX12_freightOf_148 ?_
      refine lv_topi (fun v28 e29 => ?_)
      have h := lS_u h e29
      refine lv_istore (lv' := [(9, .int v28), (0, .ref (za Z 0)), (1, .int l1), (2, .int l2), (5, .long l5), (7, .int l7), (8, .int l8)]) hx hb dX12_freightOf_151 hl (by decide) rfl (fun ls hl => ?_)
      refine lv_iload hx hb dX12_freightOf_153 (lv_at hl 6 rfl) ?_
      refine lv_istore (lv' := [(10, .int l8), (9, .int v28), (0, .ref (za Z 0)), (1, .int l1), (2, .int l2), (5, .long l5), (7, .int l7), (8, .int l8)]) hx hb dX12_freightOf_155 hl (by decide) rfl (fun ls hl => ?_)
      refine lv_aload_n hx hb dX12_freightOf_157 rfl (lv_at hl 2 rfl) ?_
      refine wr_get (C := RX12) (T := TX12) (N := 41) hx hb hts (in_X12_freightOf_X12) hown hK hP (k := 0) (by decide) ((tM_0 Z) _ _ _) rfl 37 (by decide) (hts (.fieldLink RX12 81 "TuneSearchModel" "from" "[I") (by decide +kernel)) (fun _ h9 => h9) rfl dX12_freightOf_158 ?_
      refine lv_bipush (v := 24) hx hb dX12_freightOf_161 (by decide) ?_
      refine lv_iload hx hb dX12_freightOf_163 (lv_at hl 0 rfl) ?_
      refine lv_iadd hx hb dX12_freightOf_165 ?_
      obtain ⟨b30, h⟩ := gB_e h
      refine wr_iald hx hb hK hP (k := 22) (by decide) 0 ((tM_22 Z) _ _ _) rfl b30 dX12_freightOf_166 ?_
      refine lv_topi (fun v31 e32 => ?_)
      have h := lS_u h e32
      refine lv_istore (lv' := [(11, .int v31), (10, .int l8), (9, .int v28), (0, .ref (za Z 0)), (1, .int l1), (2, .int l2), (5, .long l5), (7, .int l7), (8, .int l8)]) hx hb dX12_freightOf_167 hl (by decide) rfl (fun ls hl => ?_)
      exact kb_X12_freightOf_169 Z    C  hc56 FV σ l1 l2 l5 l7 l8 v28 v31 h H locs hP hS ls (lv_sub hl [3, 4, 5, 6, 7, 8, 2, 0] rfl)
    · have h := if_n h q26
      refine lv_aload_n hx hb dX12_freightOf_84 rfl (lv_at hl 0 rfl) ?_
      refine wr_get (C := RX12) (T := TX12) (N := 41) hx hb hts (in_X12_freightOf_X12) hown hK hP (k := 0) (by decide) ((tM_0 Z) _ _ _) rfl 33 (by decide) (hts (.fieldLink RX12 68 "TuneSearchModel" "leftB" "[I") (by decide +kernel)) (fun _ h9 => h9) rfl dX12_freightOf_85 ?_
      refine lv_iload hx hb dX12_freightOf_88 (lv_at hl 6 rfl) ?_
      obtain ⟨b33, h⟩ := gB_e h
      refine wr_iald hx hb hK hP (k := 18) (by decide) 0 ((tM_18 Z) _ _ _) rfl b33 dX12_freightOf_90 ?_
      refine lv_if_le (tgt := 129) hx hb dX12_freightOf_91 (by decide) (fun q34 => ?_) (fun q34 => ?_)
      · have h := if_p h q34
        exact kb_X12_freightOf_129 Z    C  hc56 hc73 σ l1 l2 l5 l7 l8 l9 h H locs hP hS ls (lv_sub hl [0, 1, 2, 3, 4, 5, 6] rfl)
      · have h := if_n h q34
        refine lv_iload hx hb dX12_freightOf_94 (lv_at hl 5 rfl) ?_
        refine lv_iconst (v := (-1)) hx hb dX12_freightOf_96 (by decide) ?_
        refine lv_icmp_eq (tgt := 124) hx hb dX12_freightOf_97 (by decide) (fun q35 => ?_) (fun q35 => ?_)
        · have h := if_p h q35
          exact kb_X12_freightOf_124 Z    C  hc56 hc73 σ l1 l2 l5 l7 l9 h H locs hP hS ls (lv_sub hl [0, 1, 2, 3, 4, 6] rfl)
        · have h := if_n h q35
          refine lv_aload_n hx hb dX12_freightOf_100 rfl (lv_at hl 0 rfl) ?_
          refine wr_get (C := RX12) (T := TX12) (N := 41) hx hb hts (in_X12_freightOf_X12) hown hK hP (k := 0) (by decide) ((tM_0 Z) _ _ _) rfl 36 (by decide) (hts (.fieldLink RX12 78 "TuneSearchModel" "reach" "[J") (by decide +kernel)) (fun _ h9 => h9) rfl dX12_freightOf_101 ?_
          refine lv_bipush (v := 24) hx hb dX12_freightOf_104 (by decide) ?_
          refine lv_iload hx hb dX12_freightOf_106 (lv_at hl 6 rfl) ?_
          refine lv_iadd hx hb dX12_freightOf_108 ?_
          obtain ⟨b36, h⟩ := gB_e h
          refine wr_lald hx hb hK hP (k := 21) (by decide) 1 ((tM_21 Z) _ _ _) rfl b36 dX12_freightOf_109 ?_
          refine lv_aload_n hx hb dX12_freightOf_110 rfl (lv_at hl 0 rfl) ?_
          refine wr_get (C := RX12) (T := TX12) (N := 41) hx hb hts (in_X12_freightOf_X12) hown hK hP (k := 0) (by decide) ((tM_0 Z) _ _ _) rfl 36 (by decide) (hts (.fieldLink RX12 78 "TuneSearchModel" "reach" "[J") (by decide +kernel)) (fun _ h9 => h9) rfl dX12_freightOf_111 ?_
          refine lv_bipush (v := 24) hx hb dX12_freightOf_114 (by decide) ?_
          refine lv_iload hx hb dX12_freightOf_116 (lv_at hl 5 rfl) ?_
          refine lv_iadd hx hb dX12_freightOf_118 ?_
          obtain ⟨b37, h⟩ := gB_e h
          refine wr_lald hx hb hK hP (k := 21) (by decide) 1 ((tM_21 Z) _ _ _) rfl b37 dX12_freightOf_119 ?_
          refine W.lcmp hx hb dX12_freightOf_120 ?_
          refine lv_if_ge (tgt := 129) hx hb dX12_freightOf_121 (by decide) (fun q38 => ?_) (fun q38 => ?_)
          · have h := if_p h q38
            exact kb_X12_freightOf_129 Z    C  hc56 hc73 σ l1 l2 l5 l7 l8 l9 h H locs hP hS ls (lv_sub hl [0, 1, 2, 3, 4, 5, 6] rfl)
          · have h := if_n h q38
            exact kb_X12_freightOf_124 Z    C  hc56 hc73 σ l1 l2 l5 l7 l9 h H locs hP hS ls (lv_sub hl [0, 1, 2, 3, 4, 6] rfl)
def m_X12_freightOf_56_s    (c56 : SG → Int32 → Int32 → Int64 → Int32 → Option (Int64 × SG)) (σ : SG) (l1 : Int32) (l2 : Int32) (l5 : Int64) (l7 : Int32) : Option (Int64 × SG) :=
  if l7 ≤ 0 then (some (l5, σ)) else (bi (m_X12_reachAll  σ l1 l2) (fun v22 σ23 => m_X12_freightOf_73   c56 FV σ23 l1 l2 l5 l7 (-1) 0))
def m_X12_freightOf_56    : Nat → SG → Int32 → Int32 → Int64 → Int32 → Option (Int64 × SG)
  | 0, _, _, _, _, _ => none
  | n + 1, σ, l1, l2, l5, l7 => m_X12_freightOf_56_s    (m_X12_freightOf_56    n) σ l1 l2 l5 l7
set_option maxHeartbeats 4000000 in
set_option maxRecDepth 100000 in
theorem kb_X12_freightOf_56 {p : Program} {l : Launch} {e : Env} {s : State} {m : MethodId} {args : Array Value} {below : List Frame} {meth : Method} {c : Code} {E : EF} (Z : ZT)    (C : cy p s m args meth c cX12_freightOf (some .long) 13 RX12 wsX12_freightOf E (zD Z) vwCl 24 (za Z) (tysM Z)) {res : Int64 × SG}   : ∀ (n : Nat) (σ : SG) (l1 : Int32) (l2 : Int32) (l5 : Int64) (l7 : Int32) , m_X12_freightOf_56    n σ l1 l2 l5 l7 = some res → ∀ (H : Heap) (locs : List Loc), ws_P (zD Z) vwCl 24 (za Z) (tM Z) σ H → va_S (ws_A 24 (za Z)) s.heap H locs → ∀ (ls : Array Slot), lv_has ls 13 [(0, .ref (za Z 0)), (1, .int l1), (2, .int l2), (5, .long l5), (7, .int l7)] → W p l e rm_X12_freightOf s m args below meth c H locs 0 0 (MQ below (xQl E (zD Z) vwCl 24 (za Z) (tM Z) (tysM Z) res) args s 0 0 (ws_A 24 (za Z))) (F0 m 56 ls []) := by
  have C0 := C
  obtain ⟨hx, hb, hr, hlocks, hml, hown, hts, hE, hJ, hK⟩ := C0
  intro n
  induction n with
  | zero =>
    intro σ l1 l2 l5 l7  h
    cases h
  | succ n ih =>
    intro σ l1 l2 l5 l7  h H locs hP hS ls hl
    have hc56 : ∀ (σ : SG) (l1 : Int32) (l2 : Int32) (l5 : Int64) (l7 : Int32) , m_X12_freightOf_56    n σ l1 l2 l5 l7 = some res → ∀ (H : Heap) (locs : List Loc), ws_P (zD Z) vwCl 24 (za Z) (tM Z) σ H → va_S (ws_A 24 (za Z)) s.heap H locs → ∀ (ls : Array Slot), lv_has ls 13 [(0, .ref (za Z 0)), (1, .int l1), (2, .int l2), (5, .long l5), (7, .int l7)] → W p l e rm_X12_freightOf s m args below meth c H locs 0 0 (MQ below (xQl E (zD Z) vwCl 24 (za Z) (tM Z) (tysM Z) res) args s 0 0 (ws_A 24 (za Z))) (F0 m 56 ls []) := ih
    have h : m_X12_freightOf_56_s    (m_X12_freightOf_56    n) σ l1 l2 l5 l7 = some res := h
    unfold m_X12_freightOf_56_s at h
    refine lv_iload hx hb dX12_freightOf_56 (lv_at hl 4 rfl) ?_
    refine lv_if_le (tgt := 396) hx hb dX12_freightOf_58 (by decide) (fun q21 => ?_) (fun q21 => ?_)
    · have h := if_p h q21
      refine lv_lload hx hb dX12_freightOf_396 (lv_at hl 3 rfl) ?_
      exact xr_lret hx hb hr hlocks hE hJ hK hP hS h dX12_freightOf_398
    · have h := if_n h q21
      refine lv_aload_n hx hb dX12_freightOf_61 rfl (lv_at hl 0 rfl) ?_
      refine lv_iload_n hx hb dX12_freightOf_62 rfl (lv_at hl 1 rfl) ?_
      refine lv_iload_n hx hb dX12_freightOf_63 rfl (lv_at hl 2 rfl) ?_
      obtain ⟨v22, σ23, hm24, h⟩ := bi_e h
      refine xr_callv (res := (v22, σ23)) (va_runV (As := [.int l1, .int l2]) (rest := []) ⟨hx, hb, hml, hown, hts⟩ (k_X12_reachAll l Z   σ l1 l2 hm24) (cwV 2 hts gX12_freightOf_X12_reachAll rfl rfl rfl (by decide +kernel) ⟨Nat.le_of_ble_eq_true rfl, Nat.le_of_ble_eq_true rfl⟩) ⟨wx_blind, wr_recv hK hP (k := 0) (by decide) ((tM_0 Z) _ _ _) rfl, fun U hU hW => ⟨rfl, wx_at hE hJ hP hK hS hU hW⟩⟩ rfl rfl hl.1 rfl (lv_room (Nat.le_of_ble_eq_true rfl)) dX12_freightOf_64 ⟨Nat.le_of_ble_eq_true rfl, Nat.le_of_ble_eq_true rfl⟩) hS (fun H locs hP hS => ?_)
      have hP : ws_P (zD Z) vwCl 24 (za Z) (tM Z) σ23 H := hP
      refine lv_iconst (v := (-1)) hx hb dX12_freightOf_67 (by decide) ?_
      refine lv_istore (lv' := [(8, .int (-1)), (0, .ref (za Z 0)), (1, .int l1), (2, .int l2), (5, .long l5), (7, .int l7)]) hx hb dX12_freightOf_68 hl (by decide) rfl (fun ls hl => ?_)
      refine lv_iconst (v := 0) hx hb dX12_freightOf_70 (by decide) ?_
      refine lv_istore (lv' := [(9, .int 0), (8, .int (-1)), (0, .ref (za Z 0)), (1, .int l1), (2, .int l2), (5, .long l5), (7, .int l7)]) hx hb dX12_freightOf_71 hl (by decide) rfl (fun ls hl => ?_)
      exact kb_X12_freightOf_73 Z    C  hc56 FV σ23 l1 l2 l5 l7 (-1) 0 h H locs hP hS ls (lv_sub hl [2, 3, 4, 5, 6, 1, 0] rfl)
def m_X12_freightOf_0    (σ : SG) (p0 : Int32) (p1 : Int32) : Option (Int64 × SG) :=
  bi (m_X12_unitsOf  σ p0) (fun v1 σ2 => bi (m_X12_unitsOf  σ2 p1) (fun v4 σ5 => lS (if v4 < v1 then v4 else v1) (fun v7 => lS (sJ σ5 0 38 v7.toInt64) (fun σ9 => gB (inB 7 8) (lS (if 0 ≤ (v1 - v4) then (v1 - v4) else 0 - (v1 - v4)) (fun v12 => lS (((σ9.1 4 (7 : Int32).toNatClampNeg).toInt64) * v12.toInt64) (fun v14 => bi (m_X12_lay  σ9 p0 p1) (fun v16 σ17 => lS ((σ17.2.1 0 38).toInt32) (fun v19 => m_X12_freightOf_56    FV σ17 p0 p1 v14 v19)))))))))
set_option maxHeartbeats 4000000 in
set_option maxRecDepth 100000 in
theorem kb_X12_freightOf_0 {p : Program} {l : Launch} {e : Env} {s : State} {m : MethodId} {args : Array Value} {below : List Frame} {meth : Method} {c : Code} {E : EF} (Z : ZT)    (C : cy p s m args meth c cX12_freightOf (some .long) 13 RX12 wsX12_freightOf E (zD Z) vwCl 24 (za Z) (tysM Z)) {res : Int64 × SG}   : ∀ (σ : SG) (p0 : Int32) (p1 : Int32) , m_X12_freightOf_0    σ p0 p1 = some res → ∀ (H : Heap) (locs : List Loc), ws_P (zD Z) vwCl 24 (za Z) (tM Z) σ H → va_S (ws_A 24 (za Z)) s.heap H locs → ∀ (ls : Array Slot), lv_has ls 13 [(0, .ref (za Z 0)), (1, .int p0), (2, .int p1)] → W p l e rm_X12_freightOf s m args below meth c H locs 0 0 (MQ below (xQl E (zD Z) vwCl 24 (za Z) (tM Z) (tysM Z) res) args s 0 0 (ws_A 24 (za Z))) (F0 m 0 ls []) := by
  have C0 := C
  obtain ⟨hx, hb, hr, hlocks, hml, hown, hts, hE, hJ, hK⟩ := C0
  intro σ p0 p1  h H locs hP hS ls hl
  unfold m_X12_freightOf_0 at h
  refine lv_aload_n hx hb dX12_freightOf_0 rfl (lv_at hl 0 rfl) ?_
  refine lv_iload_n hx hb dX12_freightOf_1 rfl (lv_at hl 1 rfl) ?_
  obtain ⟨v1, σ2, hm3, h⟩ := bi_e h
  refine xr_calli (res := (v1, σ2)) (va_runV (As := [.int p0]) (rest := []) ⟨hx, hb, hml, hown, hts⟩ (k_X12_unitsOf l Z   σ p0 hm3) (cwV 1 hts gX12_freightOf_X12_unitsOf rfl rfl rfl (by decide +kernel) ⟨Nat.le_of_ble_eq_true rfl, Nat.le_of_ble_eq_true rfl⟩) ⟨wx_blind, wr_recv hK hP (k := 0) (by decide) ((tM_0 Z) _ _ _) rfl, fun U hU hW => ⟨rfl, wx_at hE hJ hP hK hS hU hW⟩⟩ rfl rfl hl.1 rfl (lv_room (Nat.le_of_ble_eq_true rfl)) dX12_freightOf_2 ⟨Nat.le_of_ble_eq_true rfl, Nat.le_of_ble_eq_true rfl⟩) hS (fun H locs hP hS => ?_)
  have hP : ws_P (zD Z) vwCl 24 (za Z) (tM Z) σ2 H := hP
  refine lv_istore_n (lv' := [(3, .int v1), (0, .ref (za Z 0)), (1, .int p0), (2, .int p1)]) hx hb dX12_freightOf_5 rfl hl (by decide) rfl (fun ls hl => ?_)
  refine lv_aload_n hx hb dX12_freightOf_6 rfl (lv_at hl 1 rfl) ?_
  refine lv_iload_n hx hb dX12_freightOf_7 rfl (lv_at hl 3 rfl) ?_
  obtain ⟨v4, σ5, hm6, h⟩ := bi_e h
  refine xr_calli (res := (v4, σ5)) (va_runV (As := [.int p1]) (rest := []) ⟨hx, hb, hml, hown, hts⟩ (k_X12_unitsOf l Z   σ2 p1 hm6) (cwV 1 hts gX12_freightOf_X12_unitsOf rfl rfl rfl (by decide +kernel) ⟨Nat.le_of_ble_eq_true rfl, Nat.le_of_ble_eq_true rfl⟩) ⟨wx_blind, wr_recv hK hP (k := 0) (by decide) ((tM_0 Z) _ _ _) rfl, fun U hU hW => ⟨rfl, wx_at hE hJ hP hK hS hU hW⟩⟩ rfl rfl hl.1 rfl (lv_room (Nat.le_of_ble_eq_true rfl)) dX12_freightOf_8 ⟨Nat.le_of_ble_eq_true rfl, Nat.le_of_ble_eq_true rfl⟩) hS (fun H locs hP hS => ?_)
  have hP : ws_P (zD Z) vwCl 24 (za Z) (tM Z) σ5 H := hP
  refine lv_istore (lv' := [(4, .int v4), (3, .int v1), (0, .ref (za Z 0)), (1, .int p0), (2, .int p1)]) hx hb dX12_freightOf_11 hl (by decide) rfl (fun ls hl => ?_)
  refine lv_aload_n hx hb dX12_freightOf_13 rfl (lv_at hl 2 rfl) ?_
  refine lv_iload_n hx hb dX12_freightOf_14 rfl (lv_at hl 1 rfl) ?_
  refine lv_iload hx hb dX12_freightOf_15 (lv_at hl 0 rfl) ?_
  refine va_mmin hx hb (by rw [hml]; exact hl.1.symm) hown (hts (.methodLink RX12 226 Lib.Math.min.name) (by decide +kernel)) (hts (.static Lib.Math.min.name) (by decide +kernel)) (hts (.initialized "java/lang/Math") (by decide +kernel)) (hts (.code Lib.Math.min.name Lib.Math.min.code 2 (some .int)) (by decide +kernel)) (Nat.le_of_ble_eq_true rfl) (Nat.le_of_ble_eq_true rfl) (Nat.le_of_ble_eq_true rfl) (Nat.le_of_ble_eq_true rfl) dX12_freightOf_17 ?_
  refine lv_topi (fun v7 e8 => ?_)
  have h := lS_u h e8
  refine lv_i2l hx hb dX12_freightOf_20 rfl ?_
  refine wr_put (C := RX12) (T := TX12) (N := 41) (σ' := sJ σ5 0 38 v7.toInt64) (ty := .long) hx hb hts (in_X12_freightOf_X12) tyX12 tyX12_ok nmX12 hown hK hP hJ hS (k := 0) (by decide) ((tM_0 Z) _ _ _) rfl 38 (by decide) (hts (.fieldLink RX12 250 "TuneSearchModel" "units" "J") (by decide +kernel)) (fun _ h9 => h9) rfl (by decide +kernel) rfl rfl (Nat.le_of_ble_eq_true rfl) (ws_pJ (tM_0 Z) rfl) dX12_freightOf_21 (fun H locs hP hS => ?_)
  obtain ⟨σ9, e10, h⟩ := lS_e h
  rw [← e10] at hP
  refine lv_aload_n hx hb dX12_freightOf_24 rfl (lv_at hl 2 rfl) ?_
  refine wr_get (C := RX12) (T := TX12) (N := 41) hx hb hts (in_X12_freightOf_X12) hown hK hP (k := 0) (by decide) ((tM_0 Z) _ _ _) rfl 5 (by decide) (hts (.fieldLink RX12 21 "TuneSearchModel" "prices" "[I") (by decide +kernel)) (fun _ h9 => h9) rfl dX12_freightOf_25 ?_
  refine lv_bipush (v := 7) hx hb dX12_freightOf_28 (by decide) ?_
  obtain ⟨b11, h⟩ := gB_e h
  refine wr_iald hx hb hK hP (k := 4) (by decide) 0 ((tM_4 Z) _ _ _) rfl b11 dX12_freightOf_30 ?_
  refine lv_i2l hx hb dX12_freightOf_31 rfl ?_
  refine lv_iload_n hx hb dX12_freightOf_32 rfl (lv_at hl 1 rfl) ?_
  refine lv_iload hx hb dX12_freightOf_33 (lv_at hl 0 rfl) ?_
  refine lv_isub hx hb dX12_freightOf_35 ?_
  refine va_mabs hx hb (by rw [hml]; exact hl.1.symm) hown (hts (.methodLink RX12 220 Lib.Math.abs.name) (by decide +kernel)) (hts (.static Lib.Math.abs.name) (by decide +kernel)) (hts (.initialized "java/lang/Math") (by decide +kernel)) (hts (.code Lib.Math.abs.name Lib.Math.abs.code 1 (some .int)) (by decide +kernel)) (Nat.le_of_ble_eq_true rfl) (Nat.le_of_ble_eq_true rfl) (Nat.le_of_ble_eq_true rfl) (Nat.le_of_ble_eq_true rfl) dX12_freightOf_36 ?_
  refine lv_topi (fun v12 e13 => ?_)
  have h := lS_u h e13
  refine lv_i2l hx hb dX12_freightOf_39 rfl ?_
  refine lv_lmul hx hb dX12_freightOf_40 ?_
  refine lv_topl (fun v14 e15 => ?_)
  have h := lS_u h e15
  refine lv_lstore (lv' := [(5, .long v14), (4, .int v4), (3, .int v1), (0, .ref (za Z 0)), (1, .int p0), (2, .int p1)]) hx hb dX12_freightOf_41 hl (by decide) rfl (fun ls hl => ?_)
  refine lv_aload_n hx hb dX12_freightOf_43 rfl (lv_at hl 3 rfl) ?_
  refine lv_iload_n hx hb dX12_freightOf_44 rfl (lv_at hl 4 rfl) ?_
  refine lv_iload_n hx hb dX12_freightOf_45 rfl (lv_at hl 5 rfl) ?_
  obtain ⟨v16, σ17, hm18, h⟩ := bi_e h
  refine xr_callv (res := (v16, σ17)) (va_runV (As := [.int p0, .int p1]) (rest := []) ⟨hx, hb, hml, hown, hts⟩ (k_X12_lay l Z   σ9 p0 p1 hm18) (cwV 2 hts gX12_freightOf_X12_lay rfl rfl rfl (by decide +kernel) ⟨Nat.le_of_ble_eq_true rfl, Nat.le_of_ble_eq_true rfl⟩) ⟨wx_blind, wr_recv hK hP (k := 0) (by decide) ((tM_0 Z) _ _ _) rfl, fun U hU hW => ⟨rfl, wx_at hE hJ hP hK hS hU hW⟩⟩ rfl rfl hl.1 rfl (lv_room (Nat.le_of_ble_eq_true rfl)) dX12_freightOf_46 ⟨Nat.le_of_ble_eq_true rfl, Nat.le_of_ble_eq_true rfl⟩) hS (fun H locs hP hS => ?_)
  have hP : ws_P (zD Z) vwCl 24 (za Z) (tM Z) σ17 H := hP
  refine lv_aload_n hx hb dX12_freightOf_49 rfl (lv_at hl 3 rfl) ?_
  refine wr_get (C := RX12) (T := TX12) (N := 41) hx hb hts (in_X12_freightOf_X12) hown hK hP (k := 0) (by decide) ((tM_0 Z) _ _ _) rfl 38 (by decide) (hts (.fieldLink RX12 250 "TuneSearchModel" "units" "J") (by decide +kernel)) (fun _ h9 => h9) rfl dX12_freightOf_50 ?_
  refine lv_l2i hx hb dX12_freightOf_53 rfl ?_
  refine lv_topi (fun v19 e20 => ?_)
  have h := lS_u h e20
  refine lv_istore (lv' := [(7, .int v19), (5, .long v14), (4, .int v4), (3, .int v1), (0, .ref (za Z 0)), (1, .int p0), (2, .int p1)]) hx hb dX12_freightOf_54 hl (by decide) rfl (fun ls hl => ?_)
  exact kb_X12_freightOf_56 Z    C   FV σ17 p0 p1 v14 v19 h H locs hP hS ls (lv_sub hl [4, 5, 6, 1, 0] rfl)
def m_X12_freightOf   (σ : SG) (p0 : Int32) (p1 : Int32) : Option (Int64 × SG) := m_X12_freightOf_0   σ p0 p1
set_option maxHeartbeats 4000000 in
set_option maxRecDepth 100000 in
theorem k_X12_freightOf (l : Launch) {E : EF} (Z : ZT)    (σ : SG) (p0 : Int32) (p1 : Int32) {res : Int64 × SG} (h : m_X12_freightOf   σ p0 p1 = some res) : Met l yX12_freightOf wsX12_freightOf rm_X12_freightOf (va_Pc [.ref (za Z 0), .int p0, .int p1] (wx E (zD Z) vwCl 24 (za Z) (tM Z) (tysM Z) σ)) (xQl E (zD Z) vwCl 24 (za Z) (tM Z) (tysM Z) res) 0 0 (ws_A 24 (za Z)) := by
  refine Met.ofW (cc := cX12_freightOf) (maxL := 13) (ret := (some .long)) (by decide) rfl ?_
  intro p e s m args below meth c s₁ B hml hv
  obtain ⟨rfl, hE, hJ, hP, hK⟩ := hv
  have hl := lv_entry ([.ref (za Z 0), .int p0, .int p1]) (n := 13) (Nat.le_of_ble_eq_true rfl)
  rw [lg_entry_eq]
  generalize (lg_sl ([.ref (za Z 0), .int p0, .int p1]) ++ List.replicate (13 - (lg_sl ([.ref (za Z 0), .int p0, .int p1])).length) Slot.unset).toArray = ls at hl ⊢
  exact kb_X12_freightOf_0 Z    ⟨B.exec, B.bytes, B.returns, B.notSynchronized, hml, findClass_of_methodNamed B.named, atoms_spec (ws := wsX12_freightOf) B.pre, hE, hJ, hK⟩ σ p0 p1 h s.heap [] hP va_S.rf ls hl
/-! TuneSearchModel.freight(II)J -/
abbrev rm_X12_freight : Room := { frames := 3, cells := 0, slots := 0, locals := 81 }
def m_X12_freight_0    (σ : SG) (p0 : Int32) (p1 : Int32) : Option (Int64 × SG) :=
  bi (m_X12_isTune  σ p0) (fun v1 σ2 => if v1 = 0 then (some ((-1), σ2)) else (bi (m_X12_isTune  σ2 p1) (fun v5 σ6 => if v5 = 0 then (some ((-1), σ6)) else (bi (m_X12_freightOf  σ6 p0 p1) (fun v9 σ10 => some (v9, σ10))))))
set_option maxHeartbeats 4000000 in
set_option maxRecDepth 100000 in
theorem kb_X12_freight_0 {p : Program} {l : Launch} {e : Env} {s : State} {m : MethodId} {args : Array Value} {below : List Frame} {meth : Method} {c : Code} {E : EF} (Z : ZT)    (C : cy p s m args meth c cX12_freight (some .long) 3 RX12 wsX12_freight E (zD Z) vwCl 24 (za Z) (tysM Z)) {res : Int64 × SG}   : ∀ (σ : SG) (p0 : Int32) (p1 : Int32) , m_X12_freight_0    σ p0 p1 = some res → ∀ (H : Heap) (locs : List Loc), ws_P (zD Z) vwCl 24 (za Z) (tM Z) σ H → va_S (ws_A 24 (za Z)) s.heap H locs → ∀ (ls : Array Slot), lv_has ls 3 [(0, .ref (za Z 0)), (1, .int p0), (2, .int p1)] → W p l e rm_X12_freight s m args below meth c H locs 0 0 (MQ below (xQl E (zD Z) vwCl 24 (za Z) (tM Z) (tysM Z) res) args s 0 0 (ws_A 24 (za Z))) (F0 m 0 ls []) := by
  have C0 := C
  obtain ⟨hx, hb, hr, hlocks, hml, hown, hts, hE, hJ, hK⟩ := C0
  intro σ p0 p1  h H locs hP hS ls hl
  unfold m_X12_freight_0 at h
  refine lv_aload_n hx hb dX12_freight_0 rfl (lv_at hl 0 rfl) ?_
  refine lv_iload_n hx hb dX12_freight_1 rfl (lv_at hl 1 rfl) ?_
  obtain ⟨v1, σ2, hm3, h⟩ := bi_e h
  refine xr_calli (res := (v1, σ2)) (va_runV (As := [.int p0]) (rest := []) ⟨hx, hb, hml, hown, hts⟩ (k_X12_isTune l Z   σ p0 hm3) (cwV 1 hts gX12_freight_X12_isTune rfl rfl rfl (by decide +kernel) ⟨Nat.le_of_ble_eq_true rfl, Nat.le_of_ble_eq_true rfl⟩) ⟨wx_blind, wr_recv hK hP (k := 0) (by decide) ((tM_0 Z) _ _ _) rfl, fun U hU hW => ⟨rfl, wx_at hE hJ hP hK hS hU hW⟩⟩ rfl rfl hl.1 rfl (lv_room (Nat.le_of_ble_eq_true rfl)) dX12_freight_2 ⟨Nat.le_of_ble_eq_true rfl, Nat.le_of_ble_eq_true rfl⟩) hS (fun H locs hP hS => ?_)
  have hP : ws_P (zD Z) vwCl 24 (za Z) (tM Z) σ2 H := hP
  refine lv_if_eq (tgt := 25) hx hb dX12_freight_5 (by decide) (fun q4 => ?_) (fun q4 => ?_)
  · have h := if_p h q4
    refine lv_ldc2 (v := (-1)) hx hb hown (hts (.constantLong RX12 264 (-1)) (by decide +kernel)) dX12_freight_25 ?_
    exact xr_lret hx hb hr hlocks hE hJ hK hP hS h dX12_freight_28
  · have h := if_n h q4
    refine lv_aload_n hx hb dX12_freight_8 rfl (lv_at hl 0 rfl) ?_
    refine lv_iload_n hx hb dX12_freight_9 rfl (lv_at hl 2 rfl) ?_
    obtain ⟨v5, σ6, hm7, h⟩ := bi_e h
    refine xr_calli (res := (v5, σ6)) (va_runV (As := [.int p1]) (rest := []) ⟨hx, hb, hml, hown, hts⟩ (k_X12_isTune l Z   σ2 p1 hm7) (cwV 1 hts gX12_freight_X12_isTune rfl rfl rfl (by decide +kernel) ⟨Nat.le_of_ble_eq_true rfl, Nat.le_of_ble_eq_true rfl⟩) ⟨wx_blind, wr_recv hK hP (k := 0) (by decide) ((tM_0 Z) _ _ _) rfl, fun U hU hW => ⟨rfl, wx_at hE hJ hP hK hS hU hW⟩⟩ rfl rfl hl.1 rfl (lv_room (Nat.le_of_ble_eq_true rfl)) dX12_freight_10 ⟨Nat.le_of_ble_eq_true rfl, Nat.le_of_ble_eq_true rfl⟩) hS (fun H locs hP hS => ?_)
    have hP : ws_P (zD Z) vwCl 24 (za Z) (tM Z) σ6 H := hP
    refine lv_if_eq (tgt := 25) hx hb dX12_freight_13 (by decide) (fun q8 => ?_) (fun q8 => ?_)
    · have h := if_p h q8
      refine lv_ldc2 (v := (-1)) hx hb hown (hts (.constantLong RX12 264 (-1)) (by decide +kernel)) dX12_freight_25 ?_
      exact xr_lret hx hb hr hlocks hE hJ hK hP hS h dX12_freight_28
    · have h := if_n h q8
      refine lv_aload_n hx hb dX12_freight_16 rfl (lv_at hl 0 rfl) ?_
      refine lv_iload_n hx hb dX12_freight_17 rfl (lv_at hl 1 rfl) ?_
      refine lv_iload_n hx hb dX12_freight_18 rfl (lv_at hl 2 rfl) ?_
      obtain ⟨v9, σ10, hm11, h⟩ := bi_e h
      refine xr_calll (res := (v9, σ10)) (va_runV (As := [.int p0, .int p1]) (rest := []) ⟨hx, hb, hml, hown, hts⟩ (k_X12_freightOf l Z   σ6 p0 p1 hm11) (cwV 2 hts gX12_freight_X12_freightOf rfl rfl rfl (by decide +kernel) ⟨Nat.le_of_ble_eq_true rfl, Nat.le_of_ble_eq_true rfl⟩) ⟨wx_blind, wr_recv hK hP (k := 0) (by decide) ((tM_0 Z) _ _ _) rfl, fun U hU hW => ⟨rfl, wx_at hE hJ hP hK hS hU hW⟩⟩ rfl rfl hl.1 rfl (lv_room (Nat.le_of_ble_eq_true rfl)) dX12_freight_19 ⟨Nat.le_of_ble_eq_true rfl, Nat.le_of_ble_eq_true rfl⟩) hS (fun H locs hP hS => ?_)
      have hP : ws_P (zD Z) vwCl 24 (za Z) (tM Z) σ10 H := hP
      refine lv_goto (tgt := 28) hx hb dX12_freight_22 (by decide) ?_
      exact xr_lret hx hb hr hlocks hE hJ hK hP hS h dX12_freight_28
def m_X12_freight   (σ : SG) (p0 : Int32) (p1 : Int32) : Option (Int64 × SG) := m_X12_freight_0   σ p0 p1
set_option maxHeartbeats 4000000 in
set_option maxRecDepth 100000 in
theorem k_X12_freight (l : Launch) {E : EF} (Z : ZT)    (σ : SG) (p0 : Int32) (p1 : Int32) {res : Int64 × SG} (h : m_X12_freight   σ p0 p1 = some res) : Met l yX12_freight wsX12_freight rm_X12_freight (va_Pc [.ref (za Z 0), .int p0, .int p1] (wx E (zD Z) vwCl 24 (za Z) (tM Z) (tysM Z) σ)) (xQl E (zD Z) vwCl 24 (za Z) (tM Z) (tysM Z) res) 0 0 (ws_A 24 (za Z)) := by
  refine Met.ofW (cc := cX12_freight) (maxL := 3) (ret := (some .long)) (by decide) rfl ?_
  intro p e s m args below meth c s₁ B hml hv
  obtain ⟨rfl, hE, hJ, hP, hK⟩ := hv
  have hl := lv_entry ([.ref (za Z 0), .int p0, .int p1]) (n := 3) (Nat.le_of_ble_eq_true rfl)
  rw [lg_entry_eq]
  generalize (lg_sl ([.ref (za Z 0), .int p0, .int p1]) ++ List.replicate (3 - (lg_sl ([.ref (za Z 0), .int p0, .int p1])).length) Slot.unset).toArray = ls at hl ⊢
  exact kb_X12_freight_0 Z    ⟨B.exec, B.bytes, B.returns, B.notSynchronized, hml, findClass_of_methodNamed B.named, atoms_spec (ws := wsX12_freight) B.pre, hE, hJ, hK⟩ σ p0 p1 h s.heap [] hP va_S.rf ls hl
/-! TuneSearchModel.share(II)J -/
abbrev rm_X12_share : Room := { frames := 3, cells := 0, slots := 0, locals := 81 }
theorem in_X12_share_X12 : ∀ w ∈ wsX120, w ∈ wsX12_share := by decide +kernel
def m_X12_share_16    (σ : SG)  : Option (Int64 × SG) :=
  lS (sI σ 0 0 1) (fun σ16 => some (0, σ16))
set_option maxHeartbeats 4000000 in
set_option maxRecDepth 100000 in
theorem kb_X12_share_16 {p : Program} {l : Launch} {e : Env} {s : State} {m : MethodId} {args : Array Value} {below : List Frame} {meth : Method} {c : Code} {E : EF} (Z : ZT)    (C : cy p s m args meth c cX12_share (some .long) 5 RX12 wsX12_share E (zD Z) vwCl 24 (za Z) (tysM Z)) {res : Int64 × SG}   : ∀ (σ : SG)  , m_X12_share_16    σ  = some res → ∀ (H : Heap) (locs : List Loc), ws_P (zD Z) vwCl 24 (za Z) (tM Z) σ H → va_S (ws_A 24 (za Z)) s.heap H locs → ∀ (ls : Array Slot), lv_has ls 5 [(0, .ref (za Z 0))] → W p l e rm_X12_share s m args below meth c H locs 0 0 (MQ below (xQl E (zD Z) vwCl 24 (za Z) (tM Z) (tysM Z) res) args s 0 0 (ws_A 24 (za Z))) (F0 m 16 ls []) := by
  have C0 := C
  obtain ⟨hx, hb, hr, hlocks, hml, hown, hts, hE, hJ, hK⟩ := C0
  intro σ   h H locs hP hS ls hl
  unfold m_X12_share_16 at h
  refine lv_aload_n hx hb dX12_share_16 rfl (lv_at hl 0 rfl) ?_
  refine lv_iconst (v := 1) hx hb dX12_share_17 (by decide) ?_
  refine wr_put (C := RX12) (T := TX12) (N := 41) (σ' := sI σ 0 0 1) (ty := .int) hx hb hts (in_X12_share_X12) tyX12 tyX12_ok nmX12 hown hK hP hJ hS (k := 0) (by decide) ((tM_0 Z) _ _ _) rfl 0 (by decide) (hts (.fieldLink RX12 87 "TuneSearchModel" "code" "I") (by decide +kernel)) (fun _ h9 => h9) rfl (by decide +kernel) rfl rfl (Nat.le_of_ble_eq_true rfl) (ws_pI (tM_0 Z) rfl) dX12_share_18 (fun H locs hP hS => ?_)
  obtain ⟨σ16, e17, h⟩ := lS_e h
  rw [← e17] at hP
  refine lv_lconst (v := 0) hx hb dX12_share_21 (by decide) ?_
  exact xr_lret hx hb hr hlocks hE hJ hK hP hS h dX12_share_22
def m_X12_share_0    (σ : SG) (p0 : Int32) (p1 : Int32) : Option (Int64 × SG) :=
  bi (m_X12_isTune  σ p0) (fun v1 σ2 => if v1 = 0 then (m_X12_share_16    σ2 ) else (bi (m_X12_isTune  σ2 p1) (fun v5 σ6 => if ¬ v5 = 0 then (bi (m_X12_freightOf  σ6 p0 p1) (fun v9 σ10 => if ¬ (lg_cmp (σ10.2.1 0 38) 0) = 0 then (gB (nzL (σ10.2.1 0 38)) (some ((1000 * v9) / (σ10.2.1 0 38), σ10))) else (lS (sI σ10 0 0 2) (fun σ14 => some (0, σ14))))) else (m_X12_share_16    σ6 ))))
set_option maxHeartbeats 4000000 in
set_option maxRecDepth 100000 in
theorem kb_X12_share_0 {p : Program} {l : Launch} {e : Env} {s : State} {m : MethodId} {args : Array Value} {below : List Frame} {meth : Method} {c : Code} {E : EF} (Z : ZT)    (C : cy p s m args meth c cX12_share (some .long) 5 RX12 wsX12_share E (zD Z) vwCl 24 (za Z) (tysM Z)) {res : Int64 × SG}   : ∀ (σ : SG) (p0 : Int32) (p1 : Int32) , m_X12_share_0    σ p0 p1 = some res → ∀ (H : Heap) (locs : List Loc), ws_P (zD Z) vwCl 24 (za Z) (tM Z) σ H → va_S (ws_A 24 (za Z)) s.heap H locs → ∀ (ls : Array Slot), lv_has ls 5 [(0, .ref (za Z 0)), (1, .int p0), (2, .int p1)] → W p l e rm_X12_share s m args below meth c H locs 0 0 (MQ below (xQl E (zD Z) vwCl 24 (za Z) (tM Z) (tysM Z) res) args s 0 0 (ws_A 24 (za Z))) (F0 m 0 ls []) := by
  have C0 := C
  obtain ⟨hx, hb, hr, hlocks, hml, hown, hts, hE, hJ, hK⟩ := C0
  intro σ p0 p1  h H locs hP hS ls hl
  unfold m_X12_share_0 at h
  refine lv_aload_n hx hb dX12_share_0 rfl (lv_at hl 0 rfl) ?_
  refine lv_iload_n hx hb dX12_share_1 rfl (lv_at hl 1 rfl) ?_
  obtain ⟨v1, σ2, hm3, h⟩ := bi_e h
  refine xr_calli (res := (v1, σ2)) (va_runV (As := [.int p0]) (rest := []) ⟨hx, hb, hml, hown, hts⟩ (k_X12_isTune l Z   σ p0 hm3) (cwV 1 hts gX12_share_X12_isTune rfl rfl rfl (by decide +kernel) ⟨Nat.le_of_ble_eq_true rfl, Nat.le_of_ble_eq_true rfl⟩) ⟨wx_blind, wr_recv hK hP (k := 0) (by decide) ((tM_0 Z) _ _ _) rfl, fun U hU hW => ⟨rfl, wx_at hE hJ hP hK hS hU hW⟩⟩ rfl rfl hl.1 rfl (lv_room (Nat.le_of_ble_eq_true rfl)) dX12_share_2 ⟨Nat.le_of_ble_eq_true rfl, Nat.le_of_ble_eq_true rfl⟩) hS (fun H locs hP hS => ?_)
  have hP : ws_P (zD Z) vwCl 24 (za Z) (tM Z) σ2 H := hP
  refine lv_if_eq (tgt := 16) hx hb dX12_share_5 (by decide) (fun q4 => ?_) (fun q4 => ?_)
  · have h := if_p h q4
    exact kb_X12_share_16 Z    C   σ2  h H locs hP hS ls (lv_sub hl [0] rfl)
  · have h := if_n h q4
    refine lv_aload_n hx hb dX12_share_8 rfl (lv_at hl 0 rfl) ?_
    refine lv_iload_n hx hb dX12_share_9 rfl (lv_at hl 2 rfl) ?_
    obtain ⟨v5, σ6, hm7, h⟩ := bi_e h
    refine xr_calli (res := (v5, σ6)) (va_runV (As := [.int p1]) (rest := []) ⟨hx, hb, hml, hown, hts⟩ (k_X12_isTune l Z   σ2 p1 hm7) (cwV 1 hts gX12_share_X12_isTune rfl rfl rfl (by decide +kernel) ⟨Nat.le_of_ble_eq_true rfl, Nat.le_of_ble_eq_true rfl⟩) ⟨wx_blind, wr_recv hK hP (k := 0) (by decide) ((tM_0 Z) _ _ _) rfl, fun U hU hW => ⟨rfl, wx_at hE hJ hP hK hS hU hW⟩⟩ rfl rfl hl.1 rfl (lv_room (Nat.le_of_ble_eq_true rfl)) dX12_share_10 ⟨Nat.le_of_ble_eq_true rfl, Nat.le_of_ble_eq_true rfl⟩) hS (fun H locs hP hS => ?_)
    have hP : ws_P (zD Z) vwCl 24 (za Z) (tM Z) σ6 H := hP
    refine lv_if_ne (tgt := 23) hx hb dX12_share_13 (by decide) (fun q8 => ?_) (fun q8 => ?_)
    · have h := if_p h q8
      refine lv_aload_n hx hb dX12_share_23 rfl (lv_at hl 0 rfl) ?_
      refine lv_iload_n hx hb dX12_share_24 rfl (lv_at hl 1 rfl) ?_
      refine lv_iload_n hx hb dX12_share_25 rfl (lv_at hl 2 rfl) ?_
      obtain ⟨v9, σ10, hm11, h⟩ := bi_e h
      refine xr_calll (res := (v9, σ10)) (va_runV (As := [.int p0, .int p1]) (rest := []) ⟨hx, hb, hml, hown, hts⟩ (k_X12_freightOf l Z   σ6 p0 p1 hm11) (cwV 2 hts gX12_share_X12_freightOf rfl rfl rfl (by decide +kernel) ⟨Nat.le_of_ble_eq_true rfl, Nat.le_of_ble_eq_true rfl⟩) ⟨wx_blind, wr_recv hK hP (k := 0) (by decide) ((tM_0 Z) _ _ _) rfl, fun U hU hW => ⟨rfl, wx_at hE hJ hP hK hS hU hW⟩⟩ rfl rfl hl.1 rfl (lv_room (Nat.le_of_ble_eq_true rfl)) dX12_share_26 ⟨Nat.le_of_ble_eq_true rfl, Nat.le_of_ble_eq_true rfl⟩) hS (fun H locs hP hS => ?_)
      have hP : ws_P (zD Z) vwCl 24 (za Z) (tM Z) σ10 H := hP
      refine lv_lstore_n (lv' := [(3, .long v9), (0, .ref (za Z 0)), (1, .int p0), (2, .int p1)]) hx hb dX12_share_29 rfl hl (by decide) rfl (fun ls hl => ?_)
      refine lv_aload_n hx hb dX12_share_30 rfl (lv_at hl 1 rfl) ?_
      refine wr_get (C := RX12) (T := TX12) (N := 41) hx hb hts (in_X12_share_X12) hown hK hP (k := 0) (by decide) ((tM_0 Z) _ _ _) rfl 38 (by decide) (hts (.fieldLink RX12 250 "TuneSearchModel" "units" "J") (by decide +kernel)) (fun _ h9 => h9) rfl dX12_share_31 ?_
      refine lv_lconst (v := 0) hx hb dX12_share_34 (by decide) ?_
      refine W.lcmp hx hb dX12_share_35 ?_
      refine lv_if_ne (tgt := 46) hx hb dX12_share_36 (by decide) (fun q12 => ?_) (fun q12 => ?_)
      · have h := if_p h q12
        refine lv_ldc2 (v := 1000) hx hb hown (hts (.constantLong RX12 266 1000) (by decide +kernel)) dX12_share_46 ?_
        refine lv_lload_n hx hb dX12_share_49 rfl (lv_at hl 0 rfl) ?_
        refine lv_lmul hx hb dX12_share_50 ?_
        refine lv_aload_n hx hb dX12_share_51 rfl (lv_at hl 1 rfl) ?_
        refine wr_get (C := RX12) (T := TX12) (N := 41) hx hb hts (in_X12_share_X12) hown hK hP (k := 0) (by decide) ((tM_0 Z) _ _ _) rfl 38 (by decide) (hts (.fieldLink RX12 250 "TuneSearchModel" "units" "J") (by decide +kernel)) (fun _ h9 => h9) rfl dX12_share_52 ?_
        obtain ⟨b13, h⟩ := gB_e h
        refine lv_ldiv hx hb dX12_share_55 (nzL_e b13) ?_
        exact xr_lret hx hb hr hlocks hE hJ hK hP hS h dX12_share_56
      · have h := if_n h (fun z => z q12)
        refine lv_aload_n hx hb dX12_share_39 rfl (lv_at hl 1 rfl) ?_
        refine lv_iconst (v := 2) hx hb dX12_share_40 (by decide) ?_
        refine wr_put (C := RX12) (T := TX12) (N := 41) (σ' := sI σ10 0 0 2) (ty := .int) hx hb hts (in_X12_share_X12) tyX12 tyX12_ok nmX12 hown hK hP hJ hS (k := 0) (by decide) ((tM_0 Z) _ _ _) rfl 0 (by decide) (hts (.fieldLink RX12 87 "TuneSearchModel" "code" "I") (by decide +kernel)) (fun _ h9 => h9) rfl (by decide +kernel) rfl rfl (Nat.le_of_ble_eq_true rfl) (ws_pI (tM_0 Z) rfl) dX12_share_41 (fun H locs hP hS => ?_)
        obtain ⟨σ14, e15, h⟩ := lS_e h
        rw [← e15] at hP
        refine lv_lconst (v := 0) hx hb dX12_share_44 (by decide) ?_
        exact xr_lret hx hb hr hlocks hE hJ hK hP hS h dX12_share_45
    · have h := if_n h (fun z => z q8)
      exact kb_X12_share_16 Z    C   σ6  h H locs hP hS ls (lv_sub hl [0] rfl)
def m_X12_share   (σ : SG) (p0 : Int32) (p1 : Int32) : Option (Int64 × SG) := m_X12_share_0   σ p0 p1
set_option maxHeartbeats 4000000 in
set_option maxRecDepth 100000 in
theorem k_X12_share (l : Launch) {E : EF} (Z : ZT)    (σ : SG) (p0 : Int32) (p1 : Int32) {res : Int64 × SG} (h : m_X12_share   σ p0 p1 = some res) : Met l yX12_share wsX12_share rm_X12_share (va_Pc [.ref (za Z 0), .int p0, .int p1] (wx E (zD Z) vwCl 24 (za Z) (tM Z) (tysM Z) σ)) (xQl E (zD Z) vwCl 24 (za Z) (tM Z) (tysM Z) res) 0 0 (ws_A 24 (za Z)) := by
  refine Met.ofW (cc := cX12_share) (maxL := 5) (ret := (some .long)) (by decide) rfl ?_
  intro p e s m args below meth c s₁ B hml hv
  obtain ⟨rfl, hE, hJ, hP, hK⟩ := hv
  have hl := lv_entry ([.ref (za Z 0), .int p0, .int p1]) (n := 5) (Nat.le_of_ble_eq_true rfl)
  rw [lg_entry_eq]
  generalize (lg_sl ([.ref (za Z 0), .int p0, .int p1]) ++ List.replicate (5 - (lg_sl ([.ref (za Z 0), .int p0, .int p1])).length) Slot.unset).toArray = ls at hl ⊢
  exact kb_X12_share_0 Z    ⟨B.exec, B.bytes, B.returns, B.notSynchronized, hml, findClass_of_methodNamed B.named, atoms_spec (ws := wsX12_share) B.pre, hE, hJ, hK⟩ σ p0 p1 h s.heap [] hP va_S.rf ls hl
