/-! TuneSearchModel.closed(II)I -/
def m_X12_closed_5_s (f_X12_behind : SG → Int32 → Int32 → Option (Int32 × SG))   (c5 : SG → Int32 → Int32 → Int32 → Option (Int32 × SG)) (σ : SG) (l1 : Int32) (l3 : Int32) (l4 : Int32) : Option (Int32 × SG) :=
  if l4 = 0 then (some (l3, σ)) else (bi (f_X12_behind σ l1 l4) (fun v2 σ3 => lS (v2 &&& (l3 ^^^ (-1))) (fun v5 => lS (l3 ||| v5) (fun v7 => c5 σ3 l1 v7 v5))))
def m_X12_closed_5 (f_X12_behind : SG → Int32 → Int32 → Option (Int32 × SG))   : Nat → SG → Int32 → Int32 → Int32 → Option (Int32 × SG)
  | 0, _, _, _, _ => none
  | n + 1, σ, l1, l3, l4 => m_X12_closed_5_s f_X12_behind   (m_X12_closed_5 f_X12_behind   n) σ l1 l3 l4
set_option maxHeartbeats 4000000 in
set_option maxRecDepth 100000 in
theorem kb_X12_closed_5 {p : Program} {l : Launch} {e : Env} {s : State} {m : MethodId} {args : Array Value} {below : List Frame} {meth : Method} {c : Code} {E : EF} (Z : ZT) (d : Nat) (f_X12_behind : SG → Int32 → Int32 → Option (Int32 × SG)) (hf_X12_behind : ∀ (σ : SG) (p0 : Int32) (p1 : Int32) (res : Int32 × SG), f_X12_behind σ p0 p1 = some res → Met l yX12_behind wsX12_behind (rmb 0 d) (va_Pc [.ref (za Z 0), .int p0, .int p1] (wx E (zD Z) vwCl 24 (za Z) (tM Z) (tysM Z) σ)) (xQi E (zD Z) vwCl 24 (za Z) (tM Z) (tysM Z) res) 0 0 (ws_A 24 (za Z)))   (C : cy p s m args meth c cX12_closed (some .int) 5 RX12 wsX12_closed E (zD Z) vwCl 24 (za Z) (tysM Z)) {res : Int32 × SG}   : ∀ (n : Nat) (σ : SG) (l1 : Int32) (l3 : Int32) (l4 : Int32) , m_X12_closed_5 f_X12_behind   n σ l1 l3 l4 = some res → ∀ (H : Heap) (locs : List Loc), ws_P (zD Z) vwCl 24 (za Z) (tM Z) σ H → va_S (ws_A 24 (za Z)) s.heap H locs → ∀ (ls : Array Slot), lv_has ls 5 [(0, .ref (za Z 0)), (1, .int l1), (3, .int l3), (4, .int l4)] → W p l e (rmb 1 d) s m args below meth c H locs 0 0 (MQ below (xQi E (zD Z) vwCl 24 (za Z) (tM Z) (tysM Z) res) args s 0 0 (ws_A 24 (za Z))) (F0 m 5 ls []) := by
  have C0 := C
  obtain ⟨hx, hb, hr, hlocks, hml, hown, hts, hE, hJ, hK⟩ := C0
  intro n
  induction n with
  | zero =>
    intro σ l1 l3 l4  h
    cases h
  | succ n ih =>
    intro σ l1 l3 l4  h H locs hP hS ls hl
    have hc5 : ∀ (σ : SG) (l1 : Int32) (l3 : Int32) (l4 : Int32) , m_X12_closed_5 f_X12_behind   n σ l1 l3 l4 = some res → ∀ (H : Heap) (locs : List Loc), ws_P (zD Z) vwCl 24 (za Z) (tM Z) σ H → va_S (ws_A 24 (za Z)) s.heap H locs → ∀ (ls : Array Slot), lv_has ls 5 [(0, .ref (za Z 0)), (1, .int l1), (3, .int l3), (4, .int l4)] → W p l e (rmb 1 d) s m args below meth c H locs 0 0 (MQ below (xQi E (zD Z) vwCl 24 (za Z) (tM Z) (tysM Z) res) args s 0 0 (ws_A 24 (za Z))) (F0 m 5 ls []) := ih
    have h : m_X12_closed_5_s f_X12_behind   (m_X12_closed_5 f_X12_behind   n) σ l1 l3 l4 = some res := h
    unfold m_X12_closed_5_s at h
    refine lv_iload hx hb dX12_closed_5 (lv_at hl 3 rfl) ?_
    refine lv_if_eq (tgt := 31) hx hb dX12_closed_7 (by decide) (fun q1 => ?_) (fun q1 => ?_)
    · have h := if_p h q1
      refine lv_iload_n hx hb dX12_closed_31 rfl (lv_at hl 2 rfl) ?_
      exact xr_iret hx hb hr hlocks hE hJ hK hP hS h dX12_closed_32
    · have h := if_n h q1
      refine lv_aload_n hx hb dX12_closed_10 rfl (lv_at hl 0 rfl) ?_
      refine lv_iload_n hx hb dX12_closed_11 rfl (lv_at hl 1 rfl) ?_
      refine lv_iload hx hb dX12_closed_12 (lv_at hl 3 rfl) ?_
      obtain ⟨v2, σ3, hm4, h⟩ := bi_e h
      refine xr_calli (res := (v2, σ3)) (va_runV (As := [.int l1, .int l4]) (rest := []) ⟨hx, hb, hml, hown, hts⟩ (hf_X12_behind σ l1 l4 _ hm4) (cwV 2 hts gX12_closed_X12_behind rfl rfl rfl (by decide +kernel) ⟨by first | (dsimp only [rmq, rmb]; omega) | omega, by first | (dsimp only [rmq, rmb]; omega) | omega⟩) ⟨wx_blind, wr_recv hK hP (k := 0) (by decide) ((tM_0 Z) _ _ _) rfl, fun U hU hW => ⟨rfl, wx_at hE hJ hP hK hS hU hW⟩⟩ rfl rfl hl.1 rfl (lv_room (Nat.le_of_ble_eq_true rfl)) dX12_closed_14 ⟨Nat.le_of_ble_eq_true rfl, Nat.le_of_ble_eq_true rfl⟩) hS (fun H locs hP hS => ?_)
      have hP : ws_P (zD Z) vwCl 24 (za Z) (tM Z) σ3 H := hP
      refine lv_iload_n hx hb dX12_closed_17 rfl (lv_at hl 2 rfl) ?_
      refine lv_iconst (v := (-1)) hx hb dX12_closed_18 (by decide) ?_
      refine lv_ixor hx hb dX12_closed_19 ?_
      refine lv_iand hx hb dX12_closed_20 ?_
      refine lv_topi (fun v5 e6 => ?_)
      have h := lS_u h e6
      refine lv_istore (lv' := [(4, .int v5), (0, .ref (za Z 0)), (1, .int l1), (3, .int l3)]) hx hb dX12_closed_21 hl (by decide) rfl (fun ls hl => ?_)
      refine lv_iload_n hx hb dX12_closed_23 rfl (lv_at hl 3 rfl) ?_
      refine lv_iload hx hb dX12_closed_24 (lv_at hl 0 rfl) ?_
      refine lv_ior hx hb dX12_closed_26 ?_
      refine lv_topi (fun v7 e8 => ?_)
      have h := lS_u h e8
      refine lv_istore_n (lv' := [(3, .int v7), (4, .int v5), (0, .ref (za Z 0)), (1, .int l1)]) hx hb dX12_closed_27 rfl hl (by decide) rfl (fun ls hl => ?_)
      refine lv_goto (tgt := 5) hx hb dX12_closed_28 (by decide) ?_
      exact hc5 σ3 l1 v7 v5 h H locs hP hS ls (lv_sub hl [2, 3, 0, 1] rfl)
def m_X12_closed_0 (f_X12_behind : SG → Int32 → Int32 → Option (Int32 × SG))   (σ : SG) (p0 : Int32) (p1 : Int32) : Option (Int32 × SG) :=
  m_X12_closed_5 f_X12_behind   FV σ p0 p1 p1
set_option maxHeartbeats 4000000 in
set_option maxRecDepth 100000 in
theorem kb_X12_closed_0 {p : Program} {l : Launch} {e : Env} {s : State} {m : MethodId} {args : Array Value} {below : List Frame} {meth : Method} {c : Code} {E : EF} (Z : ZT) (d : Nat) (f_X12_behind : SG → Int32 → Int32 → Option (Int32 × SG)) (hf_X12_behind : ∀ (σ : SG) (p0 : Int32) (p1 : Int32) (res : Int32 × SG), f_X12_behind σ p0 p1 = some res → Met l yX12_behind wsX12_behind (rmb 0 d) (va_Pc [.ref (za Z 0), .int p0, .int p1] (wx E (zD Z) vwCl 24 (za Z) (tM Z) (tysM Z) σ)) (xQi E (zD Z) vwCl 24 (za Z) (tM Z) (tysM Z) res) 0 0 (ws_A 24 (za Z)))   (C : cy p s m args meth c cX12_closed (some .int) 5 RX12 wsX12_closed E (zD Z) vwCl 24 (za Z) (tysM Z)) {res : Int32 × SG}   : ∀ (σ : SG) (p0 : Int32) (p1 : Int32) , m_X12_closed_0 f_X12_behind   σ p0 p1 = some res → ∀ (H : Heap) (locs : List Loc), ws_P (zD Z) vwCl 24 (za Z) (tM Z) σ H → va_S (ws_A 24 (za Z)) s.heap H locs → ∀ (ls : Array Slot), lv_has ls 5 [(0, .ref (za Z 0)), (1, .int p0), (2, .int p1)] → W p l e (rmb 1 d) s m args below meth c H locs 0 0 (MQ below (xQi E (zD Z) vwCl 24 (za Z) (tM Z) (tysM Z) res) args s 0 0 (ws_A 24 (za Z))) (F0 m 0 ls []) := by
  have C0 := C
  obtain ⟨hx, hb, hr, hlocks, hml, hown, hts, hE, hJ, hK⟩ := C0
  intro σ p0 p1  h H locs hP hS ls hl
  unfold m_X12_closed_0 at h
  refine lv_iload_n hx hb dX12_closed_0 rfl (lv_at hl 2 rfl) ?_
  refine lv_istore_n (lv' := [(3, .int p1), (0, .ref (za Z 0)), (1, .int p0), (2, .int p1)]) hx hb dX12_closed_1 rfl hl (by decide) rfl (fun ls hl => ?_)
  refine lv_iload_n hx hb dX12_closed_2 rfl (lv_at hl 3 rfl) ?_
  refine lv_istore (lv' := [(4, .int p1), (3, .int p1), (0, .ref (za Z 0)), (1, .int p0), (2, .int p1)]) hx hb dX12_closed_3 hl (by decide) rfl (fun ls hl => ?_)
  exact kb_X12_closed_5 Z d f_X12_behind hf_X12_behind   C   FV σ p0 p1 p1 h H locs hP hS ls (lv_sub hl [2, 3, 1, 0] rfl)
def m_X12_closed (f_X12_behind : SG → Int32 → Int32 → Option (Int32 × SG))  (σ : SG) (p0 : Int32) (p1 : Int32) : Option (Int32 × SG) := m_X12_closed_0 f_X12_behind  σ p0 p1
set_option maxHeartbeats 4000000 in
set_option maxRecDepth 100000 in
theorem k_X12_closed (l : Launch) {E : EF} (Z : ZT) (d : Nat) (f_X12_behind : SG → Int32 → Int32 → Option (Int32 × SG)) (hf_X12_behind : ∀ (σ : SG) (p0 : Int32) (p1 : Int32) (res : Int32 × SG), f_X12_behind σ p0 p1 = some res → Met l yX12_behind wsX12_behind (rmb 0 d) (va_Pc [.ref (za Z 0), .int p0, .int p1] (wx E (zD Z) vwCl 24 (za Z) (tM Z) (tysM Z) σ)) (xQi E (zD Z) vwCl 24 (za Z) (tM Z) (tysM Z) res) 0 0 (ws_A 24 (za Z)))   (σ : SG) (p0 : Int32) (p1 : Int32) {res : Int32 × SG} (h : m_X12_closed f_X12_behind  σ p0 p1 = some res) : Met l yX12_closed wsX12_closed (rmb 1 d) (va_Pc [.ref (za Z 0), .int p0, .int p1] (wx E (zD Z) vwCl 24 (za Z) (tM Z) (tysM Z) σ)) (xQi E (zD Z) vwCl 24 (za Z) (tM Z) (tysM Z) res) 0 0 (ws_A 24 (za Z)) := by
  refine Met.ofW (cc := cX12_closed) (maxL := 5) (ret := (some .int)) (by decide) rfl ?_
  intro p e s m args below meth c s₁ B hml hv
  obtain ⟨rfl, hE, hJ, hP, hK⟩ := hv
  have hl := lv_entry ([.ref (za Z 0), .int p0, .int p1]) (n := 5) (Nat.le_of_ble_eq_true rfl)
  rw [lg_entry_eq]
  generalize (lg_sl ([.ref (za Z 0), .int p0, .int p1]) ++ List.replicate (5 - (lg_sl ([.ref (za Z 0), .int p0, .int p1])).length) Slot.unset).toArray = ls at hl ⊢
  exact kb_X12_closed_0 Z d f_X12_behind hf_X12_behind   ⟨B.exec, B.bytes, B.returns, B.notSynchronized, hml, findClass_of_methodNamed B.named, atoms_spec (ws := wsX12_closed) B.pre, hE, hJ, hK⟩ σ p0 p1 h s.heap [] hP va_S.rf ls hl
/-! TuneSearchModel.behind(II)I -/
theorem in_X12_behind_X12 : ∀ w ∈ wsX120, w ∈ wsX12_behind := by decide +kernel
def m_X12_behind_270 (f_X12_behind : SG → Int32 → Int32 → Option (Int32 × SG)) (f_X12_closed : SG → Int32 → Int32 → Option (Int32 × SG))  (c148 : SG → Int32 → Int32 → Int32 → Int32 → Int32 → Int32 → Option (Int32 × SG)) (σ : SG) (l1 : Int32) (l2 : Int32) (l3 : Int32) (l4 : Int32) (l6 : Int32) (s0 : Int32) (s1 : Int32) : Option (Int32 × SG) :=
  lS (s1 ||| s0) (fun v56 => lS (l6 + 1) (fun v58 => c148 σ l1 l2 l3 l4 v56 v58))
set_option maxHeartbeats 4000000 in
set_option maxRecDepth 100000 in
theorem kb_X12_behind_270 {p : Program} {l : Launch} {e : Env} {s : State} {m : MethodId} {args : Array Value} {below : List Frame} {meth : Method} {c : Code} {E : EF} (Z : ZT) (d : Nat) (f_X12_behind : SG → Int32 → Int32 → Option (Int32 × SG)) (f_X12_closed : SG → Int32 → Int32 → Option (Int32 × SG)) (hf_X12_behind : ∀ (σ : SG) (p0 : Int32) (p1 : Int32) (res : Int32 × SG), f_X12_behind σ p0 p1 = some res → Met l yX12_behind wsX12_behind (rmb 0 d) (va_Pc [.ref (za Z 0), .int p0, .int p1] (wx E (zD Z) vwCl 24 (za Z) (tM Z) (tysM Z) σ)) (xQi E (zD Z) vwCl 24 (za Z) (tM Z) (tysM Z) res) 0 0 (ws_A 24 (za Z))) (hf_X12_closed : ∀ (σ : SG) (p0 : Int32) (p1 : Int32) (res : Int32 × SG), f_X12_closed σ p0 p1 = some res → Met l yX12_closed wsX12_closed (rmb 1 d) (va_Pc [.ref (za Z 0), .int p0, .int p1] (wx E (zD Z) vwCl 24 (za Z) (tM Z) (tysM Z) σ)) (xQi E (zD Z) vwCl 24 (za Z) (tM Z) (tysM Z) res) 0 0 (ws_A 24 (za Z)))   (C : cy p s m args meth c cX12_behind (some .int) 9 RX12 wsX12_behind E (zD Z) vwCl 24 (za Z) (tysM Z)) {res : Int32 × SG} {c148 : SG → Int32 → Int32 → Int32 → Int32 → Int32 → Int32 → Option (Int32 × SG)} (hc148 : ∀ (σ : SG) (l1 : Int32) (l2 : Int32) (l3 : Int32) (l4 : Int32) (l5 : Int32) (l6 : Int32) , c148 σ l1 l2 l3 l4 l5 l6 = some res → ∀ (H : Heap) (locs : List Loc), ws_P (zD Z) vwCl 24 (za Z) (tM Z) σ H → va_S (ws_A 24 (za Z)) s.heap H locs → ∀ (ls : Array Slot), lv_has ls 9 [(0, .ref (za Z 0)), (1, .int l1), (2, .int l2), (3, .int l3), (4, .int l4), (5, .int l5), (6, .int l6)] → W p l e (rmb 0 (d + 1)) s m args below meth c H locs 0 0 (MQ below (xQi E (zD Z) vwCl 24 (za Z) (tM Z) (tysM Z) res) args s 0 0 (ws_A 24 (za Z))) (F0 m 148 ls [])) : ∀ (σ : SG) (l1 : Int32) (l2 : Int32) (l3 : Int32) (l4 : Int32) (l6 : Int32) (s0 : Int32) (s1 : Int32) , m_X12_behind_270 f_X12_behind f_X12_closed  c148 σ l1 l2 l3 l4 l6 s0 s1 = some res → ∀ (H : Heap) (locs : List Loc), ws_P (zD Z) vwCl 24 (za Z) (tM Z) σ H → va_S (ws_A 24 (za Z)) s.heap H locs → ∀ (ls : Array Slot), lv_has ls 9 [(0, .ref (za Z 0)), (1, .int l1), (2, .int l2), (3, .int l3), (4, .int l4), (6, .int l6)] → W p l e (rmb 0 (d + 1)) s m args below meth c H locs 0 0 (MQ below (xQi E (zD Z) vwCl 24 (za Z) (tM Z) (tysM Z) res) args s 0 0 (ws_A 24 (za Z))) (F0 m 270 ls [.int s0, .int s1]) := by
  have C0 := C
  obtain ⟨hx, hb, hr, hlocks, hml, hown, hts, hE, hJ, hK⟩ := C0
  intro σ l1 l2 l3 l4 l6 s0 s1  h H locs hP hS ls hl
  unfold m_X12_behind_270 at h
  refine lv_ior hx hb dX12_behind_270 ?_
  refine lv_topi (fun v56 e57 => ?_)
  have h := lS_u h e57
  refine lv_istore (lv' := [(5, .int v56), (0, .ref (za Z 0)), (1, .int l1), (2, .int l2), (3, .int l3), (4, .int l4), (6, .int l6)]) hx hb dX12_behind_271 hl (by decide) rfl (fun ls hl => ?_)
  obtain ⟨v58, e59, h⟩ := lS_e h
  refine lv_iinc (v := v58) (lv' := [(6, .int v58), (5, .int v56), (0, .ref (za Z 0)), (1, .int l1), (2, .int l2), (3, .int l3), (4, .int l4)]) hx hb dX12_behind_273 hl (k := 6) rfl (by rw [e59]; rfl) (by decide) rfl (fun ls hl => ?_)
  refine lv_goto (tgt := 148) hx hb dX12_behind_276 (by decide) ?_
  exact hc148 σ l1 l2 l3 l4 v56 v58 h H locs hP hS ls (lv_sub hl [2, 3, 4, 5, 6, 1, 0] rfl)
def m_X12_behind_269 (f_X12_behind : SG → Int32 → Int32 → Option (Int32 × SG)) (f_X12_closed : SG → Int32 → Int32 → Option (Int32 × SG))  (c148 : SG → Int32 → Int32 → Int32 → Int32 → Int32 → Int32 → Option (Int32 × SG)) (σ : SG) (l1 : Int32) (l2 : Int32) (l3 : Int32) (l4 : Int32) (l6 : Int32) (s0 : Int32) : Option (Int32 × SG) :=
  m_X12_behind_270 f_X12_behind f_X12_closed  c148 σ l1 l2 l3 l4 l6 0 s0
set_option maxHeartbeats 4000000 in
set_option maxRecDepth 100000 in
theorem kb_X12_behind_269 {p : Program} {l : Launch} {e : Env} {s : State} {m : MethodId} {args : Array Value} {below : List Frame} {meth : Method} {c : Code} {E : EF} (Z : ZT) (d : Nat) (f_X12_behind : SG → Int32 → Int32 → Option (Int32 × SG)) (f_X12_closed : SG → Int32 → Int32 → Option (Int32 × SG)) (hf_X12_behind : ∀ (σ : SG) (p0 : Int32) (p1 : Int32) (res : Int32 × SG), f_X12_behind σ p0 p1 = some res → Met l yX12_behind wsX12_behind (rmb 0 d) (va_Pc [.ref (za Z 0), .int p0, .int p1] (wx E (zD Z) vwCl 24 (za Z) (tM Z) (tysM Z) σ)) (xQi E (zD Z) vwCl 24 (za Z) (tM Z) (tysM Z) res) 0 0 (ws_A 24 (za Z))) (hf_X12_closed : ∀ (σ : SG) (p0 : Int32) (p1 : Int32) (res : Int32 × SG), f_X12_closed σ p0 p1 = some res → Met l yX12_closed wsX12_closed (rmb 1 d) (va_Pc [.ref (za Z 0), .int p0, .int p1] (wx E (zD Z) vwCl 24 (za Z) (tM Z) (tysM Z) σ)) (xQi E (zD Z) vwCl 24 (za Z) (tM Z) (tysM Z) res) 0 0 (ws_A 24 (za Z)))   (C : cy p s m args meth c cX12_behind (some .int) 9 RX12 wsX12_behind E (zD Z) vwCl 24 (za Z) (tysM Z)) {res : Int32 × SG} {c148 : SG → Int32 → Int32 → Int32 → Int32 → Int32 → Int32 → Option (Int32 × SG)} (hc148 : ∀ (σ : SG) (l1 : Int32) (l2 : Int32) (l3 : Int32) (l4 : Int32) (l5 : Int32) (l6 : Int32) , c148 σ l1 l2 l3 l4 l5 l6 = some res → ∀ (H : Heap) (locs : List Loc), ws_P (zD Z) vwCl 24 (za Z) (tM Z) σ H → va_S (ws_A 24 (za Z)) s.heap H locs → ∀ (ls : Array Slot), lv_has ls 9 [(0, .ref (za Z 0)), (1, .int l1), (2, .int l2), (3, .int l3), (4, .int l4), (5, .int l5), (6, .int l6)] → W p l e (rmb 0 (d + 1)) s m args below meth c H locs 0 0 (MQ below (xQi E (zD Z) vwCl 24 (za Z) (tM Z) (tysM Z) res) args s 0 0 (ws_A 24 (za Z))) (F0 m 148 ls [])) : ∀ (σ : SG) (l1 : Int32) (l2 : Int32) (l3 : Int32) (l4 : Int32) (l6 : Int32) (s0 : Int32) , m_X12_behind_269 f_X12_behind f_X12_closed  c148 σ l1 l2 l3 l4 l6 s0 = some res → ∀ (H : Heap) (locs : List Loc), ws_P (zD Z) vwCl 24 (za Z) (tM Z) σ H → va_S (ws_A 24 (za Z)) s.heap H locs → ∀ (ls : Array Slot), lv_has ls 9 [(0, .ref (za Z 0)), (1, .int l1), (2, .int l2), (3, .int l3), (4, .int l4), (6, .int l6)] → W p l e (rmb 0 (d + 1)) s m args below meth c H locs 0 0 (MQ below (xQi E (zD Z) vwCl 24 (za Z) (tM Z) (tysM Z) res) args s 0 0 (ws_A 24 (za Z))) (F0 m 269 ls [.int s0]) := by
  have C0 := C
  obtain ⟨hx, hb, hr, hlocks, hml, hown, hts, hE, hJ, hK⟩ := C0
  intro σ l1 l2 l3 l4 l6 s0  h H locs hP hS ls hl
  unfold m_X12_behind_269 at h
  refine lv_iconst (v := 0) hx hb dX12_behind_269 (by decide) ?_
  exact kb_X12_behind_270 Z d f_X12_behind f_X12_closed hf_X12_behind hf_X12_closed   C  hc148 σ l1 l2 l3 l4 l6 0 s0 h H locs hP hS ls (lv_sub hl [0, 1, 2, 3, 4, 5] rfl)
def m_X12_behind_243 (f_X12_behind : SG → Int32 → Int32 → Option (Int32 × SG)) (f_X12_closed : SG → Int32 → Int32 → Option (Int32 × SG))  (c148 : SG → Int32 → Int32 → Int32 → Int32 → Int32 → Int32 → Option (Int32 × SG)) (σ : SG) (l1 : Int32) (l2 : Int32) (l3 : Int32) (l4 : Int32) (l5 : Int32) (l6 : Int32) (s0 : Int32) : Option (Int32 × SG) :=
  if s0 = 0 then (m_X12_behind_269 f_X12_behind f_X12_closed  c148 σ l1 l2 l3 l4 l6 l5) else (if ¬ ((l2 >>> (l6 &&& 31)) &&& 1) = 1 then (m_X12_behind_269 f_X12_behind f_X12_closed  c148 σ l1 l2 l3 l4 l6 l5) else (m_X12_behind_270 f_X12_behind f_X12_closed  c148 σ l1 l2 l3 l4 l6 (2 <<< (l6 &&& 31)) l5))
set_option maxHeartbeats 4000000 in
set_option maxRecDepth 100000 in
theorem kb_X12_behind_243 {p : Program} {l : Launch} {e : Env} {s : State} {m : MethodId} {args : Array Value} {below : List Frame} {meth : Method} {c : Code} {E : EF} (Z : ZT) (d : Nat) (f_X12_behind : SG → Int32 → Int32 → Option (Int32 × SG)) (f_X12_closed : SG → Int32 → Int32 → Option (Int32 × SG)) (hf_X12_behind : ∀ (σ : SG) (p0 : Int32) (p1 : Int32) (res : Int32 × SG), f_X12_behind σ p0 p1 = some res → Met l yX12_behind wsX12_behind (rmb 0 d) (va_Pc [.ref (za Z 0), .int p0, .int p1] (wx E (zD Z) vwCl 24 (za Z) (tM Z) (tysM Z) σ)) (xQi E (zD Z) vwCl 24 (za Z) (tM Z) (tysM Z) res) 0 0 (ws_A 24 (za Z))) (hf_X12_closed : ∀ (σ : SG) (p0 : Int32) (p1 : Int32) (res : Int32 × SG), f_X12_closed σ p0 p1 = some res → Met l yX12_closed wsX12_closed (rmb 1 d) (va_Pc [.ref (za Z 0), .int p0, .int p1] (wx E (zD Z) vwCl 24 (za Z) (tM Z) (tysM Z) σ)) (xQi E (zD Z) vwCl 24 (za Z) (tM Z) (tysM Z) res) 0 0 (ws_A 24 (za Z)))   (C : cy p s m args meth c cX12_behind (some .int) 9 RX12 wsX12_behind E (zD Z) vwCl 24 (za Z) (tysM Z)) {res : Int32 × SG} {c148 : SG → Int32 → Int32 → Int32 → Int32 → Int32 → Int32 → Option (Int32 × SG)} (hc148 : ∀ (σ : SG) (l1 : Int32) (l2 : Int32) (l3 : Int32) (l4 : Int32) (l5 : Int32) (l6 : Int32) , c148 σ l1 l2 l3 l4 l5 l6 = some res → ∀ (H : Heap) (locs : List Loc), ws_P (zD Z) vwCl 24 (za Z) (tM Z) σ H → va_S (ws_A 24 (za Z)) s.heap H locs → ∀ (ls : Array Slot), lv_has ls 9 [(0, .ref (za Z 0)), (1, .int l1), (2, .int l2), (3, .int l3), (4, .int l4), (5, .int l5), (6, .int l6)] → W p l e (rmb 0 (d + 1)) s m args below meth c H locs 0 0 (MQ below (xQi E (zD Z) vwCl 24 (za Z) (tM Z) (tysM Z) res) args s 0 0 (ws_A 24 (za Z))) (F0 m 148 ls [])) : ∀ (σ : SG) (l1 : Int32) (l2 : Int32) (l3 : Int32) (l4 : Int32) (l5 : Int32) (l6 : Int32) (s0 : Int32) , m_X12_behind_243 f_X12_behind f_X12_closed  c148 σ l1 l2 l3 l4 l5 l6 s0 = some res → ∀ (H : Heap) (locs : List Loc), ws_P (zD Z) vwCl 24 (za Z) (tM Z) σ H → va_S (ws_A 24 (za Z)) s.heap H locs → ∀ (ls : Array Slot), lv_has ls 9 [(0, .ref (za Z 0)), (1, .int l1), (2, .int l2), (3, .int l3), (4, .int l4), (5, .int l5), (6, .int l6)] → W p l e (rmb 0 (d + 1)) s m args below meth c H locs 0 0 (MQ below (xQi E (zD Z) vwCl 24 (za Z) (tM Z) (tysM Z) res) args s 0 0 (ws_A 24 (za Z))) (F0 m 243 ls [.int s0]) := by
  have C0 := C
  obtain ⟨hx, hb, hr, hlocks, hml, hown, hts, hE, hJ, hK⟩ := C0
  intro σ l1 l2 l3 l4 l5 l6 s0  h H locs hP hS ls hl
  unfold m_X12_behind_243 at h
  refine lv_istore (lv' := [(8, .int s0), (0, .ref (za Z 0)), (1, .int l1), (2, .int l2), (3, .int l3), (4, .int l4), (5, .int l5), (6, .int l6)]) hx hb dX12_behind_243 hl (by decide) rfl (fun ls hl => ?_)
  refine lv_iload hx hb dX12_behind_245 (lv_at hl 6 rfl) ?_
  refine lv_iload hx hb dX12_behind_247 (lv_at hl 0 rfl) ?_
  refine lv_if_eq (tgt := 269) hx hb dX12_behind_249 (by decide) (fun q54 => ?_) (fun q54 => ?_)
  · have h := if_p h q54
    exact kb_X12_behind_269 Z d f_X12_behind f_X12_closed hf_X12_behind hf_X12_closed   C  hc148 σ l1 l2 l3 l4 l6 l5 h H locs hP hS ls (lv_sub hl [1, 2, 3, 4, 5, 7] rfl)
  · have h := if_n h q54
    refine lv_iload_n hx hb dX12_behind_252 rfl (lv_at hl 3 rfl) ?_
    refine lv_iload hx hb dX12_behind_253 (lv_at hl 7 rfl) ?_
    refine lv_ishr hx hb dX12_behind_255 ?_
    refine lv_iconst (v := 1) hx hb dX12_behind_256 (by decide) ?_
    refine lv_iand hx hb dX12_behind_257 ?_
    refine lv_iconst (v := 1) hx hb dX12_behind_258 (by decide) ?_
    refine lv_icmp_ne (tgt := 269) hx hb dX12_behind_259 (by decide) (fun q55 => ?_) (fun q55 => ?_)
    · have h := if_p h q55
      exact kb_X12_behind_269 Z d f_X12_behind f_X12_closed hf_X12_behind hf_X12_closed   C  hc148 σ l1 l2 l3 l4 l6 l5 h H locs hP hS ls (lv_sub hl [1, 2, 3, 4, 5, 7] rfl)
    · have h := if_n h (fun z => z q55)
      refine lv_iconst (v := 2) hx hb dX12_behind_262 (by decide) ?_
      refine lv_iload hx hb dX12_behind_263 (lv_at hl 7 rfl) ?_
      refine lv_ishl hx hb dX12_behind_265 ?_
      refine lv_goto (tgt := 270) hx hb dX12_behind_266 (by decide) ?_
      exact kb_X12_behind_270 Z d f_X12_behind f_X12_closed hf_X12_behind hf_X12_closed   C  hc148 σ l1 l2 l3 l4 l6 (2 <<< (l6 &&& 31)) l5 h H locs hP hS ls (lv_sub hl [1, 2, 3, 4, 5, 7] rfl)
def m_X12_behind_242 (f_X12_behind : SG → Int32 → Int32 → Option (Int32 × SG)) (f_X12_closed : SG → Int32 → Int32 → Option (Int32 × SG))  (c148 : SG → Int32 → Int32 → Int32 → Int32 → Int32 → Int32 → Option (Int32 × SG)) (σ : SG) (l1 : Int32) (l2 : Int32) (l3 : Int32) (l4 : Int32) (l5 : Int32) (l6 : Int32) : Option (Int32 × SG) :=
  m_X12_behind_243 f_X12_behind f_X12_closed  c148 σ l1 l2 l3 l4 l5 l6 0
set_option maxHeartbeats 4000000 in
set_option maxRecDepth 100000 in
theorem kb_X12_behind_242 {p : Program} {l : Launch} {e : Env} {s : State} {m : MethodId} {args : Array Value} {below : List Frame} {meth : Method} {c : Code} {E : EF} (Z : ZT) (d : Nat) (f_X12_behind : SG → Int32 → Int32 → Option (Int32 × SG)) (f_X12_closed : SG → Int32 → Int32 → Option (Int32 × SG)) (hf_X12_behind : ∀ (σ : SG) (p0 : Int32) (p1 : Int32) (res : Int32 × SG), f_X12_behind σ p0 p1 = some res → Met l yX12_behind wsX12_behind (rmb 0 d) (va_Pc [.ref (za Z 0), .int p0, .int p1] (wx E (zD Z) vwCl 24 (za Z) (tM Z) (tysM Z) σ)) (xQi E (zD Z) vwCl 24 (za Z) (tM Z) (tysM Z) res) 0 0 (ws_A 24 (za Z))) (hf_X12_closed : ∀ (σ : SG) (p0 : Int32) (p1 : Int32) (res : Int32 × SG), f_X12_closed σ p0 p1 = some res → Met l yX12_closed wsX12_closed (rmb 1 d) (va_Pc [.ref (za Z 0), .int p0, .int p1] (wx E (zD Z) vwCl 24 (za Z) (tM Z) (tysM Z) σ)) (xQi E (zD Z) vwCl 24 (za Z) (tM Z) (tysM Z) res) 0 0 (ws_A 24 (za Z)))   (C : cy p s m args meth c cX12_behind (some .int) 9 RX12 wsX12_behind E (zD Z) vwCl 24 (za Z) (tysM Z)) {res : Int32 × SG} {c148 : SG → Int32 → Int32 → Int32 → Int32 → Int32 → Int32 → Option (Int32 × SG)} (hc148 : ∀ (σ : SG) (l1 : Int32) (l2 : Int32) (l3 : Int32) (l4 : Int32) (l5 : Int32) (l6 : Int32) , c148 σ l1 l2 l3 l4 l5 l6 = some res → ∀ (H : Heap) (locs : List Loc), ws_P (zD Z) vwCl 24 (za Z) (tM Z) σ H → va_S (ws_A 24 (za Z)) s.heap H locs → ∀ (ls : Array Slot), lv_has ls 9 [(0, .ref (za Z 0)), (1, .int l1), (2, .int l2), (3, .int l3), (4, .int l4), (5, .int l5), (6, .int l6)] → W p l e (rmb 0 (d + 1)) s m args below meth c H locs 0 0 (MQ below (xQi E (zD Z) vwCl 24 (za Z) (tM Z) (tysM Z) res) args s 0 0 (ws_A 24 (za Z))) (F0 m 148 ls [])) : ∀ (σ : SG) (l1 : Int32) (l2 : Int32) (l3 : Int32) (l4 : Int32) (l5 : Int32) (l6 : Int32) , m_X12_behind_242 f_X12_behind f_X12_closed  c148 σ l1 l2 l3 l4 l5 l6 = some res → ∀ (H : Heap) (locs : List Loc), ws_P (zD Z) vwCl 24 (za Z) (tM Z) σ H → va_S (ws_A 24 (za Z)) s.heap H locs → ∀ (ls : Array Slot), lv_has ls 9 [(0, .ref (za Z 0)), (1, .int l1), (2, .int l2), (3, .int l3), (4, .int l4), (5, .int l5), (6, .int l6)] → W p l e (rmb 0 (d + 1)) s m args below meth c H locs 0 0 (MQ below (xQi E (zD Z) vwCl 24 (za Z) (tM Z) (tysM Z) res) args s 0 0 (ws_A 24 (za Z))) (F0 m 242 ls []) := by
  have C0 := C
  obtain ⟨hx, hb, hr, hlocks, hml, hown, hts, hE, hJ, hK⟩ := C0
  intro σ l1 l2 l3 l4 l5 l6  h H locs hP hS ls hl
  unfold m_X12_behind_242 at h
  refine lv_iconst (v := 0) hx hb dX12_behind_242 (by decide) ?_
  exact kb_X12_behind_243 Z d f_X12_behind f_X12_closed hf_X12_behind hf_X12_closed   C  hc148 σ l1 l2 l3 l4 l5 l6 0 h H locs hP hS ls (lv_sub hl [0, 1, 2, 3, 4, 5, 6] rfl)
def m_X12_behind_238 (f_X12_behind : SG → Int32 → Int32 → Option (Int32 × SG)) (f_X12_closed : SG → Int32 → Int32 → Option (Int32 × SG))  (c148 : SG → Int32 → Int32 → Int32 → Int32 → Int32 → Int32 → Option (Int32 × SG)) (σ : SG) (l1 : Int32) (l2 : Int32) (l3 : Int32) (l4 : Int32) (l5 : Int32) (l6 : Int32) : Option (Int32 × SG) :=
  m_X12_behind_243 f_X12_behind f_X12_closed  c148 σ l1 l2 l3 l4 l5 l6 1
set_option maxHeartbeats 4000000 in
set_option maxRecDepth 100000 in
theorem kb_X12_behind_238 {p : Program} {l : Launch} {e : Env} {s : State} {m : MethodId} {args : Array Value} {below : List Frame} {meth : Method} {c : Code} {E : EF} (Z : ZT) (d : Nat) (f_X12_behind : SG → Int32 → Int32 → Option (Int32 × SG)) (f_X12_closed : SG → Int32 → Int32 → Option (Int32 × SG)) (hf_X12_behind : ∀ (σ : SG) (p0 : Int32) (p1 : Int32) (res : Int32 × SG), f_X12_behind σ p0 p1 = some res → Met l yX12_behind wsX12_behind (rmb 0 d) (va_Pc [.ref (za Z 0), .int p0, .int p1] (wx E (zD Z) vwCl 24 (za Z) (tM Z) (tysM Z) σ)) (xQi E (zD Z) vwCl 24 (za Z) (tM Z) (tysM Z) res) 0 0 (ws_A 24 (za Z))) (hf_X12_closed : ∀ (σ : SG) (p0 : Int32) (p1 : Int32) (res : Int32 × SG), f_X12_closed σ p0 p1 = some res → Met l yX12_closed wsX12_closed (rmb 1 d) (va_Pc [.ref (za Z 0), .int p0, .int p1] (wx E (zD Z) vwCl 24 (za Z) (tM Z) (tysM Z) σ)) (xQi E (zD Z) vwCl 24 (za Z) (tM Z) (tysM Z) res) 0 0 (ws_A 24 (za Z)))   (C : cy p s m args meth c cX12_behind (some .int) 9 RX12 wsX12_behind E (zD Z) vwCl 24 (za Z) (tysM Z)) {res : Int32 × SG} {c148 : SG → Int32 → Int32 → Int32 → Int32 → Int32 → Int32 → Option (Int32 × SG)} (hc148 : ∀ (σ : SG) (l1 : Int32) (l2 : Int32) (l3 : Int32) (l4 : Int32) (l5 : Int32) (l6 : Int32) , c148 σ l1 l2 l3 l4 l5 l6 = some res → ∀ (H : Heap) (locs : List Loc), ws_P (zD Z) vwCl 24 (za Z) (tM Z) σ H → va_S (ws_A 24 (za Z)) s.heap H locs → ∀ (ls : Array Slot), lv_has ls 9 [(0, .ref (za Z 0)), (1, .int l1), (2, .int l2), (3, .int l3), (4, .int l4), (5, .int l5), (6, .int l6)] → W p l e (rmb 0 (d + 1)) s m args below meth c H locs 0 0 (MQ below (xQi E (zD Z) vwCl 24 (za Z) (tM Z) (tysM Z) res) args s 0 0 (ws_A 24 (za Z))) (F0 m 148 ls [])) : ∀ (σ : SG) (l1 : Int32) (l2 : Int32) (l3 : Int32) (l4 : Int32) (l5 : Int32) (l6 : Int32) , m_X12_behind_238 f_X12_behind f_X12_closed  c148 σ l1 l2 l3 l4 l5 l6 = some res → ∀ (H : Heap) (locs : List Loc), ws_P (zD Z) vwCl 24 (za Z) (tM Z) σ H → va_S (ws_A 24 (za Z)) s.heap H locs → ∀ (ls : Array Slot), lv_has ls 9 [(0, .ref (za Z 0)), (1, .int l1), (2, .int l2), (3, .int l3), (4, .int l4), (5, .int l5), (6, .int l6)] → W p l e (rmb 0 (d + 1)) s m args below meth c H locs 0 0 (MQ below (xQi E (zD Z) vwCl 24 (za Z) (tM Z) (tysM Z) res) args s 0 0 (ws_A 24 (za Z))) (F0 m 238 ls []) := by
  have C0 := C
  obtain ⟨hx, hb, hr, hlocks, hml, hown, hts, hE, hJ, hK⟩ := C0
  intro σ l1 l2 l3 l4 l5 l6  h H locs hP hS ls hl
  unfold m_X12_behind_238 at h
  refine lv_iconst (v := 1) hx hb dX12_behind_238 (by decide) ?_
  refine lv_goto (tgt := 243) hx hb dX12_behind_239 (by decide) ?_
  exact kb_X12_behind_243 Z d f_X12_behind f_X12_closed hf_X12_behind hf_X12_closed   C  hc148 σ l1 l2 l3 l4 l5 l6 1 h H locs hP hS ls (lv_sub hl [0, 1, 2, 3, 4, 5, 6] rfl)
def m_X12_behind_175 (f_X12_behind : SG → Int32 → Int32 → Option (Int32 × SG)) (f_X12_closed : SG → Int32 → Int32 → Option (Int32 × SG))  (c148 : SG → Int32 → Int32 → Int32 → Int32 → Int32 → Int32 → Option (Int32 × SG)) (σ : SG) (l1 : Int32) (l2 : Int32) (l3 : Int32) (l4 : Int32) (l5 : Int32) (l6 : Int32) (s0 : Int32) : Option (Int32 × SG) :=
  gB (inB (500 + l1) 1000) (if ¬ (σ.1 6 (500 + l1).toNatClampNeg) = 3 then (if ¬ s0 = 0 then (m_X12_behind_242 f_X12_behind f_X12_closed  c148 σ l1 l2 l3 l4 l5 l6) else (gB (inB (500 + l1) 1000) (if (σ.1 6 (500 + l1).toNatClampNeg) = 2 then (m_X12_behind_238 f_X12_behind f_X12_closed  c148 σ l1 l2 l3 l4 l5 l6) else (gB (inB l6 24) (if (σ.1 9 l6.toNatClampNeg) < l3 then (m_X12_behind_242 f_X12_behind f_X12_closed  c148 σ l1 l2 l3 l4 l5 l6) else (gB (inB l6 24) (if l4 < (σ.1 9 l6.toNatClampNeg) then (m_X12_behind_242 f_X12_behind f_X12_closed  c148 σ l1 l2 l3 l4 l5 l6) else (m_X12_behind_238 f_X12_behind f_X12_closed  c148 σ l1 l2 l3 l4 l5 l6)))))))) else (m_X12_behind_243 f_X12_behind f_X12_closed  c148 σ l1 l2 l3 l4 l5 l6 s0))
set_option maxHeartbeats 4000000 in
set_option maxRecDepth 100000 in
theorem kb_X12_behind_175 {p : Program} {l : Launch} {e : Env} {s : State} {m : MethodId} {args : Array Value} {below : List Frame} {meth : Method} {c : Code} {E : EF} (Z : ZT) (d : Nat) (f_X12_behind : SG → Int32 → Int32 → Option (Int32 × SG)) (f_X12_closed : SG → Int32 → Int32 → Option (Int32 × SG)) (hf_X12_behind : ∀ (σ : SG) (p0 : Int32) (p1 : Int32) (res : Int32 × SG), f_X12_behind σ p0 p1 = some res → Met l yX12_behind wsX12_behind (rmb 0 d) (va_Pc [.ref (za Z 0), .int p0, .int p1] (wx E (zD Z) vwCl 24 (za Z) (tM Z) (tysM Z) σ)) (xQi E (zD Z) vwCl 24 (za Z) (tM Z) (tysM Z) res) 0 0 (ws_A 24 (za Z))) (hf_X12_closed : ∀ (σ : SG) (p0 : Int32) (p1 : Int32) (res : Int32 × SG), f_X12_closed σ p0 p1 = some res → Met l yX12_closed wsX12_closed (rmb 1 d) (va_Pc [.ref (za Z 0), .int p0, .int p1] (wx E (zD Z) vwCl 24 (za Z) (tM Z) (tysM Z) σ)) (xQi E (zD Z) vwCl 24 (za Z) (tM Z) (tysM Z) res) 0 0 (ws_A 24 (za Z)))   (C : cy p s m args meth c cX12_behind (some .int) 9 RX12 wsX12_behind E (zD Z) vwCl 24 (za Z) (tysM Z)) {res : Int32 × SG} {c148 : SG → Int32 → Int32 → Int32 → Int32 → Int32 → Int32 → Option (Int32 × SG)} (hc148 : ∀ (σ : SG) (l1 : Int32) (l2 : Int32) (l3 : Int32) (l4 : Int32) (l5 : Int32) (l6 : Int32) , c148 σ l1 l2 l3 l4 l5 l6 = some res → ∀ (H : Heap) (locs : List Loc), ws_P (zD Z) vwCl 24 (za Z) (tM Z) σ H → va_S (ws_A 24 (za Z)) s.heap H locs → ∀ (ls : Array Slot), lv_has ls 9 [(0, .ref (za Z 0)), (1, .int l1), (2, .int l2), (3, .int l3), (4, .int l4), (5, .int l5), (6, .int l6)] → W p l e (rmb 0 (d + 1)) s m args below meth c H locs 0 0 (MQ below (xQi E (zD Z) vwCl 24 (za Z) (tM Z) (tysM Z) res) args s 0 0 (ws_A 24 (za Z))) (F0 m 148 ls [])) : ∀ (σ : SG) (l1 : Int32) (l2 : Int32) (l3 : Int32) (l4 : Int32) (l5 : Int32) (l6 : Int32) (s0 : Int32) , m_X12_behind_175 f_X12_behind f_X12_closed  c148 σ l1 l2 l3 l4 l5 l6 s0 = some res → ∀ (H : Heap) (locs : List Loc), ws_P (zD Z) vwCl 24 (za Z) (tM Z) σ H → va_S (ws_A 24 (za Z)) s.heap H locs → ∀ (ls : Array Slot), lv_has ls 9 [(0, .ref (za Z 0)), (1, .int l1), (2, .int l2), (3, .int l3), (4, .int l4), (5, .int l5), (6, .int l6)] → W p l e (rmb 0 (d + 1)) s m args below meth c H locs 0 0 (MQ below (xQi E (zD Z) vwCl 24 (za Z) (tM Z) (tysM Z) res) args s 0 0 (ws_A 24 (za Z))) (F0 m 175 ls [.int s0]) := by
  have C0 := C
  obtain ⟨hx, hb, hr, hlocks, hml, hown, hts, hE, hJ, hK⟩ := C0
  intro σ l1 l2 l3 l4 l5 l6 s0  h H locs hP hS ls hl
  unfold m_X12_behind_175 at h
  refine lv_istore (lv' := [(7, .int s0), (0, .ref (za Z 0)), (1, .int l1), (2, .int l2), (3, .int l3), (4, .int l4), (5, .int l5), (6, .int l6)]) hx hb dX12_behind_175 hl (by decide) rfl (fun ls hl => ?_)
  refine lv_aload_n hx hb dX12_behind_177 rfl (lv_at hl 1 rfl) ?_
  refine wr_get (C := RX12) (T := TX12) (N := 41) hx hb hts (in_X12_behind_X12) hown hK hP (k := 0) (by decide) ((tM_0 Z) _ _ _) rfl 15 (by decide) (hts (.fieldLink RX12 28 "TuneSearchModel" "kind" "[I") (by decide +kernel)) (fun _ h9 => h9) rfl dX12_behind_178 ?_
  refine lv_sipush (v := 500) hx hb dX12_behind_181 (by decide) ?_
  refine lv_iload_n hx hb dX12_behind_184 rfl (lv_at hl 2 rfl) ?_
  refine lv_iadd hx hb dX12_behind_185 ?_
  obtain ⟨b45, h⟩ := gB_e h
  refine wr_iald hx hb hK hP (k := 6) (by decide) 0 ((tM_6 Z) _ _ _) rfl b45 dX12_behind_186 ?_
  refine lv_iconst (v := 3) hx hb dX12_behind_187 (by decide) ?_
  refine lv_icmp_ne (tgt := 196) hx hb dX12_behind_188 (by decide) (fun q46 => ?_) (fun q46 => ?_)
  · have h := if_p h q46
    refine lv_iload hx hb dX12_behind_196 (lv_at hl 0 rfl) ?_
    refine lv_if_ne (tgt := 242) hx hb dX12_behind_198 (by decide) (fun q47 => ?_) (fun q47 => ?_)
    · have h := if_p h q47
      exact kb_X12_behind_242 Z d f_X12_behind f_X12_closed hf_X12_behind hf_X12_closed   C  hc148 σ l1 l2 l3 l4 l5 l6 h H locs hP hS ls (lv_sub hl [1, 2, 3, 4, 5, 6, 7] rfl)
    · have h := if_n h (fun z => z q47)
      refine lv_aload_n hx hb dX12_behind_201 rfl (lv_at hl 1 rfl) ?_
      refine wr_get (C := RX12) (T := TX12) (N := 41) hx hb hts (in_X12_behind_X12) hown hK hP (k := 0) (by decide) ((tM_0 Z) _ _ _) rfl 15 (by decide) (hts (.fieldLink RX12 28 "TuneSearchModel" "kind" "[I") (by decide +kernel)) (fun _ h9 => h9) rfl dX12_behind_202 ?_
      refine lv_sipush (v := 500) hx hb dX12_behind_205 (by decide) ?_
      refine lv_iload_n hx hb dX12_behind_208 rfl (lv_at hl 2 rfl) ?_
      refine lv_iadd hx hb dX12_behind_209 ?_
      obtain ⟨b48, h⟩ := gB_e h
      refine wr_iald hx hb hK hP (k := 6) (by decide) 0 ((tM_6 Z) _ _ _) rfl b48 dX12_behind_210 ?_
      refine lv_iconst (v := 2) hx hb dX12_behind_211 (by decide) ?_
      refine lv_icmp_eq (tgt := 238) hx hb dX12_behind_212 (by decide) (fun q49 => ?_) (fun q49 => ?_)
      · have h := if_p h q49
        exact kb_X12_behind_238 Z d f_X12_behind f_X12_closed hf_X12_behind hf_X12_closed   C  hc148 σ l1 l2 l3 l4 l5 l6 h H locs hP hS ls (lv_sub hl [1, 2, 3, 4, 5, 6, 7] rfl)
      · have h := if_n h q49
        refine lv_aload_n hx hb dX12_behind_215 rfl (lv_at hl 1 rfl) ?_
        refine wr_get (C := RX12) (T := TX12) (N := 41) hx hb hts (in_X12_behind_X12) hown hK hP (k := 0) (by decide) ((tM_0 Z) _ _ _) rfl 22 (by decide) (hts (.fieldLink RX12 41 "TuneSearchModel" "signs" "[I") (by decide +kernel)) (fun _ h9 => h9) rfl dX12_behind_216 ?_
        refine lv_iload hx hb dX12_behind_219 (lv_at hl 7 rfl) ?_
        obtain ⟨b50, h⟩ := gB_e h
        refine wr_iald hx hb hK hP (k := 9) (by decide) 0 ((tM_9 Z) _ _ _) rfl b50 dX12_behind_221 ?_
        refine lv_iload_n hx hb dX12_behind_222 rfl (lv_at hl 4 rfl) ?_
        refine lv_icmp_lt (tgt := 242) hx hb dX12_behind_223 (by decide) (fun q51 => ?_) (fun q51 => ?_)
        · have h := if_p h q51
          exact kb_X12_behind_242 Z d f_X12_behind f_X12_closed hf_X12_behind hf_X12_closed   C  hc148 σ l1 l2 l3 l4 l5 l6 h H locs hP hS ls (lv_sub hl [1, 2, 3, 4, 5, 6, 7] rfl)
        · have h := if_n h q51
          refine lv_aload_n hx hb dX12_behind_226 rfl (lv_at hl 1 rfl) ?_
          refine wr_get (C := RX12) (T := TX12) (N := 41) hx hb hts (in_X12_behind_X12) hown hK hP (k := 0) (by decide) ((tM_0 Z) _ _ _) rfl 22 (by decide) (hts (.fieldLink RX12 41 "TuneSearchModel" "signs" "[I") (by decide +kernel)) (fun _ h9 => h9) rfl dX12_behind_227 ?_
          refine lv_iload hx hb dX12_behind_230 (lv_at hl 7 rfl) ?_
          obtain ⟨b52, h⟩ := gB_e h
          refine wr_iald hx hb hK hP (k := 9) (by decide) 0 ((tM_9 Z) _ _ _) rfl b52 dX12_behind_232 ?_
          refine lv_iload hx hb dX12_behind_233 (lv_at hl 5 rfl) ?_
          refine lv_icmp_gt (tgt := 242) hx hb dX12_behind_235 (by decide) (fun q53 => ?_) (fun q53 => ?_)
          · have h := if_p h q53
            exact kb_X12_behind_242 Z d f_X12_behind f_X12_closed hf_X12_behind hf_X12_closed   C  hc148 σ l1 l2 l3 l4 l5 l6 h H locs hP hS ls (lv_sub hl [1, 2, 3, 4, 5, 6, 7] rfl)
          · have h := if_n h q53
            exact kb_X12_behind_238 Z d f_X12_behind f_X12_closed hf_X12_behind hf_X12_closed   C  hc148 σ l1 l2 l3 l4 l5 l6 h H locs hP hS ls (lv_sub hl [1, 2, 3, 4, 5, 6, 7] rfl)
  · have h := if_n h (fun z => z q46)
    refine lv_iload hx hb dX12_behind_191 (lv_at hl 0 rfl) ?_
    refine lv_goto (tgt := 243) hx hb dX12_behind_193 (by decide) ?_
    exact kb_X12_behind_243 Z d f_X12_behind f_X12_closed hf_X12_behind hf_X12_closed   C  hc148 σ l1 l2 l3 l4 l5 l6 s0 h H locs hP hS ls (lv_sub hl [1, 2, 3, 4, 5, 6, 7] rfl)
def m_X12_behind_148_s (f_X12_behind : SG → Int32 → Int32 → Option (Int32 × SG)) (f_X12_closed : SG → Int32 → Int32 → Option (Int32 × SG))   (c148 : SG → Int32 → Int32 → Int32 → Int32 → Int32 → Int32 → Option (Int32 × SG)) (σ : SG) (l1 : Int32) (l2 : Int32) (l3 : Int32) (l4 : Int32) (l5 : Int32) (l6 : Int32) : Option (Int32 × SG) :=
  if (σ.1 0 23) ≤ l6 then (some (l5, σ)) else (gB (inB l6 24) (if ¬ (σ.1 9 l6.toNatClampNeg) = 1000 then (m_X12_behind_175 f_X12_behind f_X12_closed  c148 σ l1 l2 l3 l4 l5 l6 0) else (m_X12_behind_175 f_X12_behind f_X12_closed  c148 σ l1 l2 l3 l4 l5 l6 1)))
def m_X12_behind_148 (f_X12_behind : SG → Int32 → Int32 → Option (Int32 × SG)) (f_X12_closed : SG → Int32 → Int32 → Option (Int32 × SG))   : Nat → SG → Int32 → Int32 → Int32 → Int32 → Int32 → Int32 → Option (Int32 × SG)
  | 0, _, _, _, _, _, _, _ => none
  | n + 1, σ, l1, l2, l3, l4, l5, l6 => m_X12_behind_148_s f_X12_behind f_X12_closed   (m_X12_behind_148 f_X12_behind f_X12_closed   n) σ l1 l2 l3 l4 l5 l6
set_option maxHeartbeats 4000000 in
set_option maxRecDepth 100000 in
theorem kb_X12_behind_148 {p : Program} {l : Launch} {e : Env} {s : State} {m : MethodId} {args : Array Value} {below : List Frame} {meth : Method} {c : Code} {E : EF} (Z : ZT) (d : Nat) (f_X12_behind : SG → Int32 → Int32 → Option (Int32 × SG)) (f_X12_closed : SG → Int32 → Int32 → Option (Int32 × SG)) (hf_X12_behind : ∀ (σ : SG) (p0 : Int32) (p1 : Int32) (res : Int32 × SG), f_X12_behind σ p0 p1 = some res → Met l yX12_behind wsX12_behind (rmb 0 d) (va_Pc [.ref (za Z 0), .int p0, .int p1] (wx E (zD Z) vwCl 24 (za Z) (tM Z) (tysM Z) σ)) (xQi E (zD Z) vwCl 24 (za Z) (tM Z) (tysM Z) res) 0 0 (ws_A 24 (za Z))) (hf_X12_closed : ∀ (σ : SG) (p0 : Int32) (p1 : Int32) (res : Int32 × SG), f_X12_closed σ p0 p1 = some res → Met l yX12_closed wsX12_closed (rmb 1 d) (va_Pc [.ref (za Z 0), .int p0, .int p1] (wx E (zD Z) vwCl 24 (za Z) (tM Z) (tysM Z) σ)) (xQi E (zD Z) vwCl 24 (za Z) (tM Z) (tysM Z) res) 0 0 (ws_A 24 (za Z)))   (C : cy p s m args meth c cX12_behind (some .int) 9 RX12 wsX12_behind E (zD Z) vwCl 24 (za Z) (tysM Z)) {res : Int32 × SG}   : ∀ (n : Nat) (σ : SG) (l1 : Int32) (l2 : Int32) (l3 : Int32) (l4 : Int32) (l5 : Int32) (l6 : Int32) , m_X12_behind_148 f_X12_behind f_X12_closed   n σ l1 l2 l3 l4 l5 l6 = some res → ∀ (H : Heap) (locs : List Loc), ws_P (zD Z) vwCl 24 (za Z) (tM Z) σ H → va_S (ws_A 24 (za Z)) s.heap H locs → ∀ (ls : Array Slot), lv_has ls 9 [(0, .ref (za Z 0)), (1, .int l1), (2, .int l2), (3, .int l3), (4, .int l4), (5, .int l5), (6, .int l6)] → W p l e (rmb 0 (d + 1)) s m args below meth c H locs 0 0 (MQ below (xQi E (zD Z) vwCl 24 (za Z) (tM Z) (tysM Z) res) args s 0 0 (ws_A 24 (za Z))) (F0 m 148 ls []) := by
  have C0 := C
  obtain ⟨hx, hb, hr, hlocks, hml, hown, hts, hE, hJ, hK⟩ := C0
  intro n
  induction n with
  | zero =>
    intro σ l1 l2 l3 l4 l5 l6  h
    cases h
  | succ n ih =>
    intro σ l1 l2 l3 l4 l5 l6  h H locs hP hS ls hl
    have hc148 : ∀ (σ : SG) (l1 : Int32) (l2 : Int32) (l3 : Int32) (l4 : Int32) (l5 : Int32) (l6 : Int32) , m_X12_behind_148 f_X12_behind f_X12_closed   n σ l1 l2 l3 l4 l5 l6 = some res → ∀ (H : Heap) (locs : List Loc), ws_P (zD Z) vwCl 24 (za Z) (tM Z) σ H → va_S (ws_A 24 (za Z)) s.heap H locs → ∀ (ls : Array Slot), lv_has ls 9 [(0, .ref (za Z 0)), (1, .int l1), (2, .int l2), (3, .int l3), (4, .int l4), (5, .int l5), (6, .int l6)] → W p l e (rmb 0 (d + 1)) s m args below meth c H locs 0 0 (MQ below (xQi E (zD Z) vwCl 24 (za Z) (tM Z) (tysM Z) res) args s 0 0 (ws_A 24 (za Z))) (F0 m 148 ls []) := ih
    have h : m_X12_behind_148_s f_X12_behind f_X12_closed   (m_X12_behind_148 f_X12_behind f_X12_closed   n) σ l1 l2 l3 l4 l5 l6 = some res := h
    unfold m_X12_behind_148_s at h
    refine lv_iload hx hb dX12_behind_148 (lv_at hl 6 rfl) ?_
    refine lv_aload_n hx hb dX12_behind_150 rfl (lv_at hl 0 rfl) ?_
    refine wr_get (C := RX12) (T := TX12) (N := 41) hx hb hts (in_X12_behind_X12) hown hK hP (k := 0) (by decide) ((tM_0 Z) _ _ _) rfl 23 (by decide) (hts (.fieldLink RX12 191 "TuneSearchModel" "signCount" "I") (by decide +kernel)) (fun _ h9 => h9) rfl dX12_behind_151 ?_
    refine lv_icmp_ge (tgt := 279) hx hb dX12_behind_154 (by decide) (fun q42 => ?_) (fun q42 => ?_)
    · have h := if_p h q42
      refine lv_iload hx hb dX12_behind_279 (lv_at hl 5 rfl) ?_
      exact xr_iret hx hb hr hlocks hE hJ hK hP hS h dX12_behind_281
    · have h := if_n h q42
      refine lv_aload_n hx hb dX12_behind_157 rfl (lv_at hl 0 rfl) ?_
      refine wr_get (C := RX12) (T := TX12) (N := 41) hx hb hts (in_X12_behind_X12) hown hK hP (k := 0) (by decide) ((tM_0 Z) _ _ _) rfl 22 (by decide) (hts (.fieldLink RX12 41 "TuneSearchModel" "signs" "[I") (by decide +kernel)) (fun _ h9 => h9) rfl dX12_behind_158 ?_
      refine lv_iload hx hb dX12_behind_161 (lv_at hl 6 rfl) ?_
      obtain ⟨b43, h⟩ := gB_e h
      refine wr_iald hx hb hK hP (k := 9) (by decide) 0 ((tM_9 Z) _ _ _) rfl b43 dX12_behind_163 ?_
      refine lv_sipush (v := 1000) hx hb dX12_behind_164 (by decide) ?_
      refine lv_icmp_ne (tgt := 174) hx hb dX12_behind_167 (by decide) (fun q44 => ?_) (fun q44 => ?_)
      · have h := if_p h q44
        refine lv_iconst (v := 0) hx hb dX12_behind_174 (by decide) ?_
        exact kb_X12_behind_175 Z d f_X12_behind f_X12_closed hf_X12_behind hf_X12_closed   C  hc148 σ l1 l2 l3 l4 l5 l6 0 h H locs hP hS ls (lv_sub hl [0, 1, 2, 3, 4, 5, 6] rfl)
      · have h := if_n h (fun z => z q44)
        refine lv_iconst (v := 1) hx hb dX12_behind_170 (by decide) ?_
        refine lv_goto (tgt := 175) hx hb dX12_behind_171 (by decide) ?_
        exact kb_X12_behind_175 Z d f_X12_behind f_X12_closed hf_X12_behind hf_X12_closed   C  hc148 σ l1 l2 l3 l4 l5 l6 1 h H locs hP hS ls (lv_sub hl [0, 1, 2, 3, 4, 5, 6] rfl)
def m_X12_behind_0 (f_X12_behind : SG → Int32 → Int32 → Option (Int32 × SG)) (f_X12_closed : SG → Int32 → Int32 → Option (Int32 × SG))   (σ : SG) (p0 : Int32) (p1 : Int32) : Option (Int32 × SG) :=
  gB (inB (500 + p0) 1000) (lS (σ.1 7 (500 + p0).toNatClampNeg) (fun v2 => gB (inB (500 + p0) 1000) (lS (σ.1 8 (500 + p0).toNatClampNeg) (fun v5 => gB (inB (500 + p0) 1000) (if (σ.1 6 (500 + p0).toNatClampNeg) = 0 then (some (p1, σ)) else (if (σ.1 6 (500 + p0).toNatClampNeg) = 1 then (m_X12_behind_148 f_X12_behind f_X12_closed   FV σ p0 p1 v2 v5 0 0) else (if (σ.1 6 (500 + p0).toNatClampNeg) = 2 then (m_X12_behind_148 f_X12_behind f_X12_closed   FV σ p0 p1 v2 v5 0 0) else (if (σ.1 6 (500 + p0).toNatClampNeg) = 3 then (m_X12_behind_148 f_X12_behind f_X12_closed   FV σ p0 p1 v2 v5 0 0) else (if (σ.1 6 (500 + p0).toNatClampNeg) = 4 then (bi (f_X12_behind σ v2 p1) (fun v13 σ14 => bi (f_X12_behind σ14 v5 v13) (fun v16 σ17 => some (v16, σ17)))) else (if (σ.1 6 (500 + p0).toNatClampNeg) = 5 then (bi (f_X12_behind σ v2 p1) (fun v20 σ21 => bi (f_X12_behind σ21 v5 p1) (fun v23 σ24 => some (v20 ||| v23, σ24)))) else (if (σ.1 6 (500 + p0).toNatClampNeg) = 6 then (bi (f_X12_closed σ v2 p1) (fun v27 σ28 => some (v27, σ28))) else (if (σ.1 6 (500 + p0).toNatClampNeg) = 7 then (bi (f_X12_behind σ v2 p1) (fun v31 σ32 => bi (f_X12_closed σ32 v2 v31) (fun v34 σ35 => some (v34, σ35)))) else (if (σ.1 6 (500 + p0).toNatClampNeg) = 8 then (bi (f_X12_behind σ v2 p1) (fun v38 σ39 => some (p1 ||| v38, σ39))) else (m_X12_behind_148 f_X12_behind f_X12_closed   FV σ p0 p1 v2 v5 0 0))))))))))))))
set_option maxHeartbeats 4000000 in
set_option maxRecDepth 100000 in
theorem kb_X12_behind_0 {p : Program} {l : Launch} {e : Env} {s : State} {m : MethodId} {args : Array Value} {below : List Frame} {meth : Method} {c : Code} {E : EF} (Z : ZT) (d : Nat) (f_X12_behind : SG → Int32 → Int32 → Option (Int32 × SG)) (f_X12_closed : SG → Int32 → Int32 → Option (Int32 × SG)) (hf_X12_behind : ∀ (σ : SG) (p0 : Int32) (p1 : Int32) (res : Int32 × SG), f_X12_behind σ p0 p1 = some res → Met l yX12_behind wsX12_behind (rmb 0 d) (va_Pc [.ref (za Z 0), .int p0, .int p1] (wx E (zD Z) vwCl 24 (za Z) (tM Z) (tysM Z) σ)) (xQi E (zD Z) vwCl 24 (za Z) (tM Z) (tysM Z) res) 0 0 (ws_A 24 (za Z))) (hf_X12_closed : ∀ (σ : SG) (p0 : Int32) (p1 : Int32) (res : Int32 × SG), f_X12_closed σ p0 p1 = some res → Met l yX12_closed wsX12_closed (rmb 1 d) (va_Pc [.ref (za Z 0), .int p0, .int p1] (wx E (zD Z) vwCl 24 (za Z) (tM Z) (tysM Z) σ)) (xQi E (zD Z) vwCl 24 (za Z) (tM Z) (tysM Z) res) 0 0 (ws_A 24 (za Z)))   (C : cy p s m args meth c cX12_behind (some .int) 9 RX12 wsX12_behind E (zD Z) vwCl 24 (za Z) (tysM Z)) {res : Int32 × SG}   : ∀ (σ : SG) (p0 : Int32) (p1 : Int32) , m_X12_behind_0 f_X12_behind f_X12_closed   σ p0 p1 = some res → ∀ (H : Heap) (locs : List Loc), ws_P (zD Z) vwCl 24 (za Z) (tM Z) σ H → va_S (ws_A 24 (za Z)) s.heap H locs → ∀ (ls : Array Slot), lv_has ls 9 [(0, .ref (za Z 0)), (1, .int p0), (2, .int p1)] → W p l e (rmb 0 (d + 1)) s m args below meth c H locs 0 0 (MQ below (xQi E (zD Z) vwCl 24 (za Z) (tM Z) (tysM Z) res) args s 0 0 (ws_A 24 (za Z))) (F0 m 0 ls []) := by
  have C0 := C
  obtain ⟨hx, hb, hr, hlocks, hml, hown, hts, hE, hJ, hK⟩ := C0
  intro σ p0 p1  h H locs hP hS ls hl
  unfold m_X12_behind_0 at h
  refine lv_aload_n hx hb dX12_behind_0 rfl (lv_at hl 0 rfl) ?_
  refine wr_get (C := RX12) (T := TX12) (N := 41) hx hb hts (in_X12_behind_X12) hown hK hP (k := 0) (by decide) ((tM_0 Z) _ _ _) rfl 16 (by decide) (hts (.fieldLink RX12 31 "TuneSearchModel" "a" "[I") (by decide +kernel)) (fun _ h9 => h9) rfl dX12_behind_1 ?_
  refine lv_sipush (v := 500) hx hb dX12_behind_4 (by decide) ?_
  refine lv_iload_n hx hb dX12_behind_7 rfl (lv_at hl 1 rfl) ?_
  refine lv_iadd hx hb dX12_behind_8 ?_
  obtain ⟨b1, h⟩ := gB_e h
  refine wr_iald hx hb hK hP (k := 7) (by decide) 0 ((tM_7 Z) _ _ _) rfl b1 dX12_behind_9 ?_
  refine lv_topi (fun v2 e3 => ?_)
  have h := lS_u h e3
  refine lv_istore_n (lv' := [(3, .int v2), (0, .ref (za Z 0)), (1, .int p0), (2, .int p1)]) hx hb dX12_behind_10 rfl hl (by decide) rfl (fun ls hl => ?_)
  refine lv_aload_n hx hb dX12_behind_11 rfl (lv_at hl 1 rfl) ?_
  refine wr_get (C := RX12) (T := TX12) (N := 41) hx hb hts (in_X12_behind_X12) hown hK hP (k := 0) (by decide) ((tM_0 Z) _ _ _) rfl 17 (by decide) (hts (.fieldLink RX12 34 "TuneSearchModel" "b" "[I") (by decide +kernel)) (fun _ h9 => h9) rfl dX12_behind_12 ?_
  refine lv_sipush (v := 500) hx hb dX12_behind_15 (by decide) ?_
  refine lv_iload_n hx hb dX12_behind_18 rfl (lv_at hl 2 rfl) ?_
  refine lv_iadd hx hb dX12_behind_19 ?_
  obtain ⟨b4, h⟩ := gB_e h
  refine wr_iald hx hb hK hP (k := 8) (by decide) 0 ((tM_8 Z) _ _ _) rfl b4 dX12_behind_20 ?_
  refine lv_topi (fun v5 e6 => ?_)
  have h := lS_u h e6
  refine lv_istore (lv' := [(4, .int v5), (3, .int v2), (0, .ref (za Z 0)), (1, .int p0), (2, .int p1)]) hx hb dX12_behind_21 hl (by decide) rfl (fun ls hl => ?_)
  refine lv_aload_n hx hb dX12_behind_23 rfl (lv_at hl 2 rfl) ?_
  refine wr_get (C := RX12) (T := TX12) (N := 41) hx hb hts (in_X12_behind_X12) hown hK hP (k := 0) (by decide) ((tM_0 Z) _ _ _) rfl 15 (by decide) (hts (.fieldLink RX12 28 "TuneSearchModel" "kind" "[I") (by decide +kernel)) (fun _ h9 => h9) rfl dX12_behind_24 ?_
  refine lv_sipush (v := 500) hx hb dX12_behind_27 (by decide) ?_
  refine lv_iload_n hx hb dX12_behind_30 rfl (lv_at hl 3 rfl) ?_
  refine lv_iadd hx hb dX12_behind_31 ?_
  obtain ⟨b7, h⟩ := gB_e h
  refine wr_iald hx hb hK hP (k := 6) (by decide) 0 ((tM_6 Z) _ _ _) rfl b7 dX12_behind_32 ?_
  by_cases q8 : (σ.1 6 (500 + p0).toNatClampNeg) = 0
  · have h := if_p h q8
    refine lv_tableIn (tgt := 84) hx hb dX12_behind_33 (by rw [q8]; decide) (by rw [q8]; decide) (by rw [q8]; rfl) (by decide) ?_
    refine lv_iload_n hx hb dX12_behind_84 rfl (lv_at hl 4 rfl) ?_
    exact xr_iret hx hb hr hlocks hE hJ hK hP hS h dX12_behind_85
  · have h := if_n h q8
    by_cases q9 : (σ.1 6 (500 + p0).toNatClampNeg) = 1
    · have h := if_p h q9
      refine lv_tableIn (tgt := 142) hx hb dX12_behind_33 (by rw [q9]; decide) (by rw [q9]; decide) (by rw [q9]; rfl) (by decide) ?_
      refine lv_iconst (v := 0) hx hb dX12_behind_142 (by decide) ?_
      refine lv_istore (lv' := [(5, .int 0), (4, .int v5), (3, .int v2), (0, .ref (za Z 0)), (1, .int p0), (2, .int p1)]) hx hb dX12_behind_143 hl (by decide) rfl (fun ls hl => ?_)
      refine lv_iconst (v := 0) hx hb dX12_behind_145 (by decide) ?_
      refine lv_istore (lv' := [(6, .int 0), (5, .int 0), (4, .int v5), (3, .int v2), (0, .ref (za Z 0)), (1, .int p0), (2, .int p1)]) hx hb dX12_behind_146 hl (by decide) rfl (fun ls hl => ?_)
      exact kb_X12_behind_148 Z d f_X12_behind f_X12_closed hf_X12_behind hf_X12_closed   C   FV σ p0 p1 v2 v5 0 0 h H locs hP hS ls (lv_sub hl [4, 5, 6, 3, 2, 1, 0] rfl)
    · have h := if_n h q9
      by_cases q10 : (σ.1 6 (500 + p0).toNatClampNeg) = 2
      · have h := if_p h q10
        refine lv_tableIn (tgt := 142) hx hb dX12_behind_33 (by rw [q10]; decide) (by rw [q10]; decide) (by rw [q10]; rfl) (by decide) ?_
        refine lv_iconst (v := 0) hx hb dX12_behind_142 (by decide) ?_
        refine lv_istore (lv' := [(5, .int 0), (4, .int v5), (3, .int v2), (0, .ref (za Z 0)), (1, .int p0), (2, .int p1)]) hx hb dX12_behind_143 hl (by decide) rfl (fun ls hl => ?_)
        refine lv_iconst (v := 0) hx hb dX12_behind_145 (by decide) ?_
        refine lv_istore (lv' := [(6, .int 0), (5, .int 0), (4, .int v5), (3, .int v2), (0, .ref (za Z 0)), (1, .int p0), (2, .int p1)]) hx hb dX12_behind_146 hl (by decide) rfl (fun ls hl => ?_)
        exact kb_X12_behind_148 Z d f_X12_behind f_X12_closed hf_X12_behind hf_X12_closed   C   FV σ p0 p1 v2 v5 0 0 h H locs hP hS ls (lv_sub hl [4, 5, 6, 3, 2, 1, 0] rfl)
      · have h := if_n h q10
        by_cases q11 : (σ.1 6 (500 + p0).toNatClampNeg) = 3
        · have h := if_p h q11
          refine lv_tableIn (tgt := 142) hx hb dX12_behind_33 (by rw [q11]; decide) (by rw [q11]; decide) (by rw [q11]; rfl) (by decide) ?_
          refine lv_iconst (v := 0) hx hb dX12_behind_142 (by decide) ?_
          refine lv_istore (lv' := [(5, .int 0), (4, .int v5), (3, .int v2), (0, .ref (za Z 0)), (1, .int p0), (2, .int p1)]) hx hb dX12_behind_143 hl (by decide) rfl (fun ls hl => ?_)
          refine lv_iconst (v := 0) hx hb dX12_behind_145 (by decide) ?_
          refine lv_istore (lv' := [(6, .int 0), (5, .int 0), (4, .int v5), (3, .int v2), (0, .ref (za Z 0)), (1, .int p0), (2, .int p1)]) hx hb dX12_behind_146 hl (by decide) rfl (fun ls hl => ?_)
          exact kb_X12_behind_148 Z d f_X12_behind f_X12_closed hf_X12_behind hf_X12_closed   C   FV σ p0 p1 v2 v5 0 0 h H locs hP hS ls (lv_sub hl [4, 5, 6, 3, 2, 1, 0] rfl)
        · have h := if_n h q11
          by_cases q12 : (σ.1 6 (500 + p0).toNatClampNeg) = 4
          · have h := if_p h q12
            refine lv_tableIn (tgt := 86) hx hb dX12_behind_33 (by rw [q12]; decide) (by rw [q12]; decide) (by rw [q12]; rfl) (by decide) ?_
            refine lv_aload_n hx hb dX12_behind_86 rfl (lv_at hl 2 rfl) ?_
            refine lv_iload hx hb dX12_behind_87 (lv_at hl 0 rfl) ?_
            refine lv_aload_n hx hb dX12_behind_89 rfl (lv_at hl 2 rfl) ?_
            refine lv_iload_n hx hb dX12_behind_90 rfl (lv_at hl 1 rfl) ?_
            refine lv_iload_n hx hb dX12_behind_91 rfl (lv_at hl 4 rfl) ?_
            obtain ⟨v13, σ14, hm15, h⟩ := bi_e h
            refine xr_calli (res := (v13, σ14)) (va_runV (As := [.int v2, .int p1]) (rest := [.int v5, .ref (za Z 0)]) ⟨hx, hb, hml, hown, hts⟩ (hf_X12_behind σ v2 p1 _ hm15) (cwV 2 hts gX12_behind_X12_behind rfl rfl rfl (by decide +kernel) ⟨by first | (dsimp only [rmq, rmb]; omega) | omega, by first | (dsimp only [rmq, rmb]; omega) | omega⟩) ⟨wx_blind, wr_recv hK hP (k := 0) (by decide) ((tM_0 Z) _ _ _) rfl, fun U hU hW => ⟨rfl, wx_at hE hJ hP hK hS hU hW⟩⟩ rfl rfl hl.1 rfl (lv_room (Nat.le_of_ble_eq_true rfl)) dX12_behind_92 ⟨Nat.le_of_ble_eq_true rfl, Nat.le_of_ble_eq_true rfl⟩) hS (fun H locs hP hS => ?_)
            have hP : ws_P (zD Z) vwCl 24 (za Z) (tM Z) σ14 H := hP
            obtain ⟨v16, σ17, hm18, h⟩ := bi_e h
            refine xr_calli (res := (v16, σ17)) (va_runV (As := [.int v5, .int v13]) (rest := []) ⟨hx, hb, hml, hown, hts⟩ (hf_X12_behind σ14 v5 v13 _ hm18) (cwV 2 hts gX12_behind_X12_behind rfl rfl rfl (by decide +kernel) ⟨by first | (dsimp only [rmq, rmb]; omega) | omega, by first | (dsimp only [rmq, rmb]; omega) | omega⟩) ⟨wx_blind, wr_recv hK hP (k := 0) (by decide) ((tM_0 Z) _ _ _) rfl, fun U hU hW => ⟨rfl, wx_at hE hJ hP hK hS hU hW⟩⟩ rfl rfl hl.1 rfl (lv_room (Nat.le_of_ble_eq_true rfl)) dX12_behind_95 ⟨Nat.le_of_ble_eq_true rfl, Nat.le_of_ble_eq_true rfl⟩) hS (fun H locs hP hS => ?_)
            have hP : ws_P (zD Z) vwCl 24 (za Z) (tM Z) σ17 H := hP
            exact xr_iret hx hb hr hlocks hE hJ hK hP hS h dX12_behind_98
          · have h := if_n h q12
            by_cases q19 : (σ.1 6 (500 + p0).toNatClampNeg) = 5
            · have h := if_p h q19
              refine lv_tableIn (tgt := 99) hx hb dX12_behind_33 (by rw [q19]; decide) (by rw [q19]; decide) (by rw [q19]; rfl) (by decide) ?_
              refine lv_aload_n hx hb dX12_behind_99 rfl (lv_at hl 2 rfl) ?_
              refine lv_iload_n hx hb dX12_behind_100 rfl (lv_at hl 1 rfl) ?_
              refine lv_iload_n hx hb dX12_behind_101 rfl (lv_at hl 4 rfl) ?_
              obtain ⟨v20, σ21, hm22, h⟩ := bi_e h
              refine xr_calli (res := (v20, σ21)) (va_runV (As := [.int v2, .int p1]) (rest := []) ⟨hx, hb, hml, hown, hts⟩ (hf_X12_behind σ v2 p1 _ hm22) (cwV 2 hts gX12_behind_X12_behind rfl rfl rfl (by decide +kernel) ⟨by first | (dsimp only [rmq, rmb]; omega) | omega, by first | (dsimp only [rmq, rmb]; omega) | omega⟩) ⟨wx_blind, wr_recv hK hP (k := 0) (by decide) ((tM_0 Z) _ _ _) rfl, fun U hU hW => ⟨rfl, wx_at hE hJ hP hK hS hU hW⟩⟩ rfl rfl hl.1 rfl (lv_room (Nat.le_of_ble_eq_true rfl)) dX12_behind_102 ⟨Nat.le_of_ble_eq_true rfl, Nat.le_of_ble_eq_true rfl⟩) hS (fun H locs hP hS => ?_)
              have hP : ws_P (zD Z) vwCl 24 (za Z) (tM Z) σ21 H := hP
              refine lv_aload_n hx hb dX12_behind_105 rfl (lv_at hl 2 rfl) ?_
              refine lv_iload hx hb dX12_behind_106 (lv_at hl 0 rfl) ?_
              refine lv_iload_n hx hb dX12_behind_108 rfl (lv_at hl 4 rfl) ?_
              obtain ⟨v23, σ24, hm25, h⟩ := bi_e h
              refine xr_calli (res := (v23, σ24)) (va_runV (As := [.int v5, .int p1]) (rest := [.int v20]) ⟨hx, hb, hml, hown, hts⟩ (hf_X12_behind σ21 v5 p1 _ hm25) (cwV 2 hts gX12_behind_X12_behind rfl rfl rfl (by decide +kernel) ⟨by first | (dsimp only [rmq, rmb]; omega) | omega, by first | (dsimp only [rmq, rmb]; omega) | omega⟩) ⟨wx_blind, wr_recv hK hP (k := 0) (by decide) ((tM_0 Z) _ _ _) rfl, fun U hU hW => ⟨rfl, wx_at hE hJ hP hK hS hU hW⟩⟩ rfl rfl hl.1 rfl (lv_room (Nat.le_of_ble_eq_true rfl)) dX12_behind_109 ⟨Nat.le_of_ble_eq_true rfl, Nat.le_of_ble_eq_true rfl⟩) hS (fun H locs hP hS => ?_)
              have hP : ws_P (zD Z) vwCl 24 (za Z) (tM Z) σ24 H := hP
              refine lv_ior hx hb dX12_behind_112 ?_
              exact xr_iret hx hb hr hlocks hE hJ hK hP hS h dX12_behind_113
            · have h := if_n h q19
              by_cases q26 : (σ.1 6 (500 + p0).toNatClampNeg) = 6
              · have h := if_p h q26
                refine lv_tableIn (tgt := 123) hx hb dX12_behind_33 (by rw [q26]; decide) (by rw [q26]; decide) (by rw [q26]; rfl) (by decide) ?_
                refine lv_aload_n hx hb dX12_behind_123 rfl (lv_at hl 2 rfl) ?_
                refine lv_iload_n hx hb dX12_behind_124 rfl (lv_at hl 1 rfl) ?_
                refine lv_iload_n hx hb dX12_behind_125 rfl (lv_at hl 4 rfl) ?_
                obtain ⟨v27, σ28, hm29, h⟩ := bi_e h
                refine xr_calli (res := (v27, σ28)) (va_runV (As := [.int v2, .int p1]) (rest := []) ⟨hx, hb, hml, hown, hts⟩ (hf_X12_closed σ v2 p1 _ hm29) (cwV 2 hts gX12_behind_X12_closed rfl rfl rfl (by decide +kernel) ⟨by first | (dsimp only [rmq, rmb]; omega) | omega, by first | (dsimp only [rmq, rmb]; omega) | omega⟩) ⟨wx_blind, wr_recv hK hP (k := 0) (by decide) ((tM_0 Z) _ _ _) rfl, fun U hU hW => ⟨rfl, wx_at hE hJ hP hK hS hU hW⟩⟩ rfl rfl hl.1 rfl (lv_room (Nat.le_of_ble_eq_true rfl)) dX12_behind_126 ⟨Nat.le_of_ble_eq_true rfl, Nat.le_of_ble_eq_true rfl⟩) hS (fun H locs hP hS => ?_)
                have hP : ws_P (zD Z) vwCl 24 (za Z) (tM Z) σ28 H := hP
                exact xr_iret hx hb hr hlocks hE hJ hK hP hS h dX12_behind_129
              · have h := if_n h q26
                by_cases q30 : (σ.1 6 (500 + p0).toNatClampNeg) = 7
                · have h := if_p h q30
                  refine lv_tableIn (tgt := 130) hx hb dX12_behind_33 (by rw [q30]; decide) (by rw [q30]; decide) (by rw [q30]; rfl) (by decide) ?_
                  refine lv_aload_n hx hb dX12_behind_130 rfl (lv_at hl 2 rfl) ?_
                  refine lv_iload_n hx hb dX12_behind_131 rfl (lv_at hl 1 rfl) ?_
                  refine lv_aload_n hx hb dX12_behind_132 rfl (lv_at hl 2 rfl) ?_
                  refine lv_iload_n hx hb dX12_behind_133 rfl (lv_at hl 1 rfl) ?_
                  refine lv_iload_n hx hb dX12_behind_134 rfl (lv_at hl 4 rfl) ?_
                  obtain ⟨v31, σ32, hm33, h⟩ := bi_e h
                  refine xr_calli (res := (v31, σ32)) (va_runV (As := [.int v2, .int p1]) (rest := [.int v2, .ref (za Z 0)]) ⟨hx, hb, hml, hown, hts⟩ (hf_X12_behind σ v2 p1 _ hm33) (cwV 2 hts gX12_behind_X12_behind rfl rfl rfl (by decide +kernel) ⟨by first | (dsimp only [rmq, rmb]; omega) | omega, by first | (dsimp only [rmq, rmb]; omega) | omega⟩) ⟨wx_blind, wr_recv hK hP (k := 0) (by decide) ((tM_0 Z) _ _ _) rfl, fun U hU hW => ⟨rfl, wx_at hE hJ hP hK hS hU hW⟩⟩ rfl rfl hl.1 rfl (lv_room (Nat.le_of_ble_eq_true rfl)) dX12_behind_135 ⟨Nat.le_of_ble_eq_true rfl, Nat.le_of_ble_eq_true rfl⟩) hS (fun H locs hP hS => ?_)
                  have hP : ws_P (zD Z) vwCl 24 (za Z) (tM Z) σ32 H := hP
                  obtain ⟨v34, σ35, hm36, h⟩ := bi_e h
                  refine xr_calli (res := (v34, σ35)) (va_runV (As := [.int v2, .int v31]) (rest := []) ⟨hx, hb, hml, hown, hts⟩ (hf_X12_closed σ32 v2 v31 _ hm36) (cwV 2 hts gX12_behind_X12_closed rfl rfl rfl (by decide +kernel) ⟨by first | (dsimp only [rmq, rmb]; omega) | omega, by first | (dsimp only [rmq, rmb]; omega) | omega⟩) ⟨wx_blind, wr_recv hK hP (k := 0) (by decide) ((tM_0 Z) _ _ _) rfl, fun U hU hW => ⟨rfl, wx_at hE hJ hP hK hS hU hW⟩⟩ rfl rfl hl.1 rfl (lv_room (Nat.le_of_ble_eq_true rfl)) dX12_behind_138 ⟨Nat.le_of_ble_eq_true rfl, Nat.le_of_ble_eq_true rfl⟩) hS (fun H locs hP hS => ?_)
                  have hP : ws_P (zD Z) vwCl 24 (za Z) (tM Z) σ35 H := hP
                  exact xr_iret hx hb hr hlocks hE hJ hK hP hS h dX12_behind_141
                · have h := if_n h q30
                  by_cases q37 : (σ.1 6 (500 + p0).toNatClampNeg) = 8
                  · have h := if_p h q37
                    refine lv_tableIn (tgt := 114) hx hb dX12_behind_33 (by rw [q37]; decide) (by rw [q37]; decide) (by rw [q37]; rfl) (by decide) ?_
                    refine lv_iload_n hx hb dX12_behind_114 rfl (lv_at hl 4 rfl) ?_
                    refine lv_aload_n hx hb dX12_behind_115 rfl (lv_at hl 2 rfl) ?_
                    refine lv_iload_n hx hb dX12_behind_116 rfl (lv_at hl 1 rfl) ?_
                    refine lv_iload_n hx hb dX12_behind_117 rfl (lv_at hl 4 rfl) ?_
                    obtain ⟨v38, σ39, hm40, h⟩ := bi_e h
                    refine xr_calli (res := (v38, σ39)) (va_runV (As := [.int v2, .int p1]) (rest := [.int p1]) ⟨hx, hb, hml, hown, hts⟩ (hf_X12_behind σ v2 p1 _ hm40) (cwV 2 hts gX12_behind_X12_behind rfl rfl rfl (by decide +kernel) ⟨by first | (dsimp only [rmq, rmb]; omega) | omega, by first | (dsimp only [rmq, rmb]; omega) | omega⟩) ⟨wx_blind, wr_recv hK hP (k := 0) (by decide) ((tM_0 Z) _ _ _) rfl, fun U hU hW => ⟨rfl, wx_at hE hJ hP hK hS hU hW⟩⟩ rfl rfl hl.1 rfl (lv_room (Nat.le_of_ble_eq_true rfl)) dX12_behind_118 ⟨Nat.le_of_ble_eq_true rfl, Nat.le_of_ble_eq_true rfl⟩) hS (fun H locs hP hS => ?_)
                    have hP : ws_P (zD Z) vwCl 24 (za Z) (tM Z) σ39 H := hP
                    refine lv_ior hx hb dX12_behind_121 ?_
                    exact xr_iret hx hb hr hlocks hE hJ hK hP hS h dX12_behind_122
                  · have h := if_n h q37
                    have z41 : ((σ.1 6 (500 + p0).toNatClampNeg) : Int32).toInt < 0 ∨ 8 < ((σ.1 6 (500 + p0).toNatClampNeg) : Int32).toInt := by
                      rcases Classical.em (((σ.1 6 (500 + p0).toNatClampNeg) : Int32).toInt < 0 ∨ 8 < ((σ.1 6 (500 + p0).toNatClampNeg) : Int32).toInt) with z | z
                      · exact z
                      · exfalso
                        have z2 : ((σ.1 6 (500 + p0).toNatClampNeg) : Int32).toInt = 0 ∨ ((σ.1 6 (500 + p0).toNatClampNeg) : Int32).toInt = 1 ∨ ((σ.1 6 (500 + p0).toNatClampNeg) : Int32).toInt = 2 ∨ ((σ.1 6 (500 + p0).toNatClampNeg) : Int32).toInt = 3 ∨ ((σ.1 6 (500 + p0).toNatClampNeg) : Int32).toInt = 4 ∨ ((σ.1 6 (500 + p0).toNatClampNeg) : Int32).toInt = 5 ∨ ((σ.1 6 (500 + p0).toNatClampNeg) : Int32).toInt = 6 ∨ ((σ.1 6 (500 + p0).toNatClampNeg) : Int32).toInt = 7 ∨ ((σ.1 6 (500 + p0).toNatClampNeg) : Int32).toInt = 8 := by omega
                        rcases z2 with z2 | z2 | z2 | z2 | z2 | z2 | z2 | z2 | z2
                        · exact q8 (Int32.toInt_inj.mp (z2.trans (by decide)))
                        · exact q9 (Int32.toInt_inj.mp (z2.trans (by decide)))
                        · exact q10 (Int32.toInt_inj.mp (z2.trans (by decide)))
                        · exact q11 (Int32.toInt_inj.mp (z2.trans (by decide)))
                        · exact q12 (Int32.toInt_inj.mp (z2.trans (by decide)))
                        · exact q19 (Int32.toInt_inj.mp (z2.trans (by decide)))
                        · exact q26 (Int32.toInt_inj.mp (z2.trans (by decide)))
                        · exact q30 (Int32.toInt_inj.mp (z2.trans (by decide)))
                        · exact q37 (Int32.toInt_inj.mp (z2.trans (by decide)))
                    refine lv_tableOut (tgt := 142) hx hb dX12_behind_33 z41 (by decide) ?_
                    refine lv_iconst (v := 0) hx hb dX12_behind_142 (by decide) ?_
                    refine lv_istore (lv' := [(5, .int 0), (4, .int v5), (3, .int v2), (0, .ref (za Z 0)), (1, .int p0), (2, .int p1)]) hx hb dX12_behind_143 hl (by decide) rfl (fun ls hl => ?_)
                    refine lv_iconst (v := 0) hx hb dX12_behind_145 (by decide) ?_
                    refine lv_istore (lv' := [(6, .int 0), (5, .int 0), (4, .int v5), (3, .int v2), (0, .ref (za Z 0)), (1, .int p0), (2, .int p1)]) hx hb dX12_behind_146 hl (by decide) rfl (fun ls hl => ?_)
                    exact kb_X12_behind_148 Z d f_X12_behind f_X12_closed hf_X12_behind hf_X12_closed   C   FV σ p0 p1 v2 v5 0 0 h H locs hP hS ls (lv_sub hl [4, 5, 6, 3, 2, 1, 0] rfl)
def m_X12_behind (f_X12_behind : SG → Int32 → Int32 → Option (Int32 × SG)) (f_X12_closed : SG → Int32 → Int32 → Option (Int32 × SG))  (σ : SG) (p0 : Int32) (p1 : Int32) : Option (Int32 × SG) := m_X12_behind_0 f_X12_behind f_X12_closed  σ p0 p1
set_option maxHeartbeats 4000000 in
set_option maxRecDepth 100000 in
theorem k_X12_behind (l : Launch) {E : EF} (Z : ZT) (d : Nat) (f_X12_behind : SG → Int32 → Int32 → Option (Int32 × SG)) (f_X12_closed : SG → Int32 → Int32 → Option (Int32 × SG)) (hf_X12_behind : ∀ (σ : SG) (p0 : Int32) (p1 : Int32) (res : Int32 × SG), f_X12_behind σ p0 p1 = some res → Met l yX12_behind wsX12_behind (rmb 0 d) (va_Pc [.ref (za Z 0), .int p0, .int p1] (wx E (zD Z) vwCl 24 (za Z) (tM Z) (tysM Z) σ)) (xQi E (zD Z) vwCl 24 (za Z) (tM Z) (tysM Z) res) 0 0 (ws_A 24 (za Z))) (hf_X12_closed : ∀ (σ : SG) (p0 : Int32) (p1 : Int32) (res : Int32 × SG), f_X12_closed σ p0 p1 = some res → Met l yX12_closed wsX12_closed (rmb 1 d) (va_Pc [.ref (za Z 0), .int p0, .int p1] (wx E (zD Z) vwCl 24 (za Z) (tM Z) (tysM Z) σ)) (xQi E (zD Z) vwCl 24 (za Z) (tM Z) (tysM Z) res) 0 0 (ws_A 24 (za Z)))   (σ : SG) (p0 : Int32) (p1 : Int32) {res : Int32 × SG} (h : m_X12_behind f_X12_behind f_X12_closed  σ p0 p1 = some res) : Met l yX12_behind wsX12_behind (rmb 0 (d + 1)) (va_Pc [.ref (za Z 0), .int p0, .int p1] (wx E (zD Z) vwCl 24 (za Z) (tM Z) (tysM Z) σ)) (xQi E (zD Z) vwCl 24 (za Z) (tM Z) (tysM Z) res) 0 0 (ws_A 24 (za Z)) := by
  refine Met.ofW (cc := cX12_behind) (maxL := 9) (ret := (some .int)) (by decide) rfl ?_
  intro p e s m args below meth c s₁ B hml hv
  obtain ⟨rfl, hE, hJ, hP, hK⟩ := hv
  have hl := lv_entry ([.ref (za Z 0), .int p0, .int p1]) (n := 9) (Nat.le_of_ble_eq_true rfl)
  rw [lg_entry_eq]
  generalize (lg_sl ([.ref (za Z 0), .int p0, .int p1]) ++ List.replicate (9 - (lg_sl ([.ref (za Z 0), .int p0, .int p1])).length) Slot.unset).toArray = ls at hl ⊢
  exact kb_X12_behind_0 Z d f_X12_behind f_X12_closed hf_X12_behind hf_X12_closed   ⟨B.exec, B.bytes, B.returns, B.notSynchronized, hml, findClass_of_methodNamed B.named, atoms_spec (ws := wsX12_behind) B.pre, hE, hJ, hK⟩ σ p0 p1 h s.heap [] hP va_S.rf ls hl
/-- behind a node, d nodes deep at most -/
def t_beh : Nat → SG → Int32 → Int32 → Option (Int32 × SG)
  | 0 => fun _ _ _ => none
  | d + 1 => m_X12_behind (t_beh d) (m_X12_closed (t_beh d))
theorem k_beh (l : Launch) {E : EF} (Z : ZT) : ∀ (d : Nat), ∀ (σ : SG) (p0 : Int32) (p1 : Int32) (res : Int32 × SG), t_beh d σ p0 p1 = some res → Met l yX12_behind wsX12_behind (rmb 0 d) (va_Pc [.ref (za Z 0), .int p0, .int p1] (wx E (zD Z) vwCl 24 (za Z) (tM Z) (tysM Z) σ)) (xQi E (zD Z) vwCl 24 (za Z) (tM Z) (tysM Z) res) 0 0 (ws_A 24 (za Z)) := by
  intro d
  induction d with
  | zero =>
    intro σ p0 p1 res h
    cases h
  | succ d ih =>
    intro σ p0 p1 res h
    exact k_X12_behind l Z d _ _ ih (fun σ p0 p1 res h => k_X12_closed l Z d _ ih σ p0 p1 h) σ p0 p1 h
/-! TuneSearchModel.find(IIIII)V -/
abbrev rm_X12_find : Room := { frames := 1, cells := 0, slots := 0, locals := 30 }
theorem in_X12_find_X12 : ∀ w ∈ wsX120, w ∈ wsX12_find := by decide +kernel
def m_X12_find_57    (σ : SG) (l1 : Int32) (l2 : Int32) (l3 : Int32) (l4 : Int32) (l5 : Int32) (l6 : Int32) : Option (Unit × SG) :=
  gB (inB (5 * l6) 1000) (lS (sI σ 10 (5 * l6).toNatClampNeg l1) (fun σ12 => gB (inB ((5 * l6) + 1) 1000) (lS (sI σ12 10 ((5 * l6) + 1).toNatClampNeg l2) (fun σ15 => gB (inB ((5 * l6) + 2) 1000) (lS (sI σ15 10 ((5 * l6) + 2).toNatClampNeg l3) (fun σ18 => gB (inB ((5 * l6) + 3) 1000) (lS (sI σ18 10 ((5 * l6) + 3).toNatClampNeg l4) (fun σ21 => gB (inB ((5 * l6) + 4) 1000) (lS (sI σ21 10 ((5 * l6) + 4).toNatClampNeg l5) (fun σ24 => lS (sI σ24 0 25 ((σ24.1 0 25) + 1)) (fun σ26 => some ((), σ26))))))))))))
set_option maxHeartbeats 4000000 in
set_option maxRecDepth 100000 in
theorem kb_X12_find_57 {p : Program} {l : Launch} {e : Env} {s : State} {m : MethodId} {args : Array Value} {below : List Frame} {meth : Method} {c : Code} {E : EF} (Z : ZT)    (C : cy p s m args meth c cX12_find none 7 RX12 wsX12_find E (zD Z) vwCl 24 (za Z) (tysM Z)) {res : Unit × SG}   : ∀ (σ : SG) (l1 : Int32) (l2 : Int32) (l3 : Int32) (l4 : Int32) (l5 : Int32) (l6 : Int32) , m_X12_find_57    σ l1 l2 l3 l4 l5 l6 = some res → ∀ (H : Heap) (locs : List Loc), ws_P (zD Z) vwCl 24 (za Z) (tM Z) σ H → va_S (ws_A 24 (za Z)) s.heap H locs → ∀ (ls : Array Slot), lv_has ls 7 [(0, .ref (za Z 0)), (1, .int l1), (2, .int l2), (3, .int l3), (4, .int l4), (5, .int l5), (6, .int l6)] → W p l e rm_X12_find s m args below meth c H locs 0 0 (MQ below (xQv E (zD Z) vwCl 24 (za Z) (tM Z) (tysM Z) res) args s 0 0 (ws_A 24 (za Z))) (F0 m 57 ls []) := by
  have C0 := C
  obtain ⟨hx, hb, hr, hlocks, hml, hown, hts, hE, hJ, hK⟩ := C0
  intro σ l1 l2 l3 l4 l5 l6  h H locs hP hS ls hl
  unfold m_X12_find_57 at h
  refine lv_aload_n hx hb dX12_find_57 rfl (lv_at hl 0 rfl) ?_
  refine wr_get (C := RX12) (T := TX12) (N := 41) hx hb hts (in_X12_find_X12) hown hK hP (k := 0) (by decide) ((tM_0 Z) _ _ _) rfl 24 (by decide) (hts (.fieldLink RX12 44 "TuneSearchModel" "found" "[I") (by decide +kernel)) (fun _ h9 => h9) rfl dX12_find_58 ?_
  refine lv_iconst (v := 5) hx hb dX12_find_61 (by decide) ?_
  refine lv_iload hx hb dX12_find_62 (lv_at hl 6 rfl) ?_
  refine lv_imul hx hb dX12_find_64 ?_
  refine lv_iload_n hx hb dX12_find_65 rfl (lv_at hl 1 rfl) ?_
  obtain ⟨b11, h⟩ := gB_e h
  refine wr_iast hx hb hK hP hJ hS (k := 10) (by decide) 0 (tM_10 Z) rfl b11 dX12_find_66 (fun H locs hP hS => ?_)
  obtain ⟨σ12, e13, h⟩ := lS_e h
  rw [← e13] at hP
  refine lv_aload_n hx hb dX12_find_67 rfl (lv_at hl 0 rfl) ?_
  refine wr_get (C := RX12) (T := TX12) (N := 41) hx hb hts (in_X12_find_X12) hown hK hP (k := 0) (by decide) ((tM_0 Z) _ _ _) rfl 24 (by decide) (hts (.fieldLink RX12 44 "TuneSearchModel" "found" "[I") (by decide +kernel)) (fun _ h9 => h9) rfl dX12_find_68 ?_
  refine lv_iconst (v := 5) hx hb dX12_find_71 (by decide) ?_
  refine lv_iload hx hb dX12_find_72 (lv_at hl 6 rfl) ?_
  refine lv_imul hx hb dX12_find_74 ?_
  refine lv_iconst (v := 1) hx hb dX12_find_75 (by decide) ?_
  refine lv_iadd hx hb dX12_find_76 ?_
  refine lv_iload_n hx hb dX12_find_77 rfl (lv_at hl 2 rfl) ?_
  obtain ⟨b14, h⟩ := gB_e h
  refine wr_iast hx hb hK hP hJ hS (k := 10) (by decide) 0 (tM_10 Z) rfl b14 dX12_find_78 (fun H locs hP hS => ?_)
  obtain ⟨σ15, e16, h⟩ := lS_e h
  rw [← e16] at hP
  refine lv_aload_n hx hb dX12_find_79 rfl (lv_at hl 0 rfl) ?_
  refine wr_get (C := RX12) (T := TX12) (N := 41) hx hb hts (in_X12_find_X12) hown hK hP (k := 0) (by decide) ((tM_0 Z) _ _ _) rfl 24 (by decide) (hts (.fieldLink RX12 44 "TuneSearchModel" "found" "[I") (by decide +kernel)) (fun _ h9 => h9) rfl dX12_find_80 ?_
  refine lv_iconst (v := 5) hx hb dX12_find_83 (by decide) ?_
  refine lv_iload hx hb dX12_find_84 (lv_at hl 6 rfl) ?_
  refine lv_imul hx hb dX12_find_86 ?_
  refine lv_iconst (v := 2) hx hb dX12_find_87 (by decide) ?_
  refine lv_iadd hx hb dX12_find_88 ?_
  refine lv_iload_n hx hb dX12_find_89 rfl (lv_at hl 3 rfl) ?_
  obtain ⟨b17, h⟩ := gB_e h
  refine wr_iast hx hb hK hP hJ hS (k := 10) (by decide) 0 (tM_10 Z) rfl b17 dX12_find_90 (fun H locs hP hS => ?_)
  obtain ⟨σ18, e19, h⟩ := lS_e h
  rw [← e19] at hP
  refine lv_aload_n hx hb dX12_find_91 rfl (lv_at hl 0 rfl) ?_
  refine wr_get (C := RX12) (T := TX12) (N := 41) hx hb hts (in_X12_find_X12) hown hK hP (k := 0) (by decide) ((tM_0 Z) _ _ _) rfl 24 (by decide) (hts (.fieldLink RX12 44 "TuneSearchModel" "found" "[I") (by decide +kernel)) (fun _ h9 => h9) rfl dX12_find_92 ?_
  refine lv_iconst (v := 5) hx hb dX12_find_95 (by decide) ?_
  refine lv_iload hx hb dX12_find_96 (lv_at hl 6 rfl) ?_
  refine lv_imul hx hb dX12_find_98 ?_
  refine lv_iconst (v := 3) hx hb dX12_find_99 (by decide) ?_
  refine lv_iadd hx hb dX12_find_100 ?_
  refine lv_iload hx hb dX12_find_101 (lv_at hl 4 rfl) ?_
  obtain ⟨b20, h⟩ := gB_e h
  refine wr_iast hx hb hK hP hJ hS (k := 10) (by decide) 0 (tM_10 Z) rfl b20 dX12_find_103 (fun H locs hP hS => ?_)
  obtain ⟨σ21, e22, h⟩ := lS_e h
  rw [← e22] at hP
  refine lv_aload_n hx hb dX12_find_104 rfl (lv_at hl 0 rfl) ?_
  refine wr_get (C := RX12) (T := TX12) (N := 41) hx hb hts (in_X12_find_X12) hown hK hP (k := 0) (by decide) ((tM_0 Z) _ _ _) rfl 24 (by decide) (hts (.fieldLink RX12 44 "TuneSearchModel" "found" "[I") (by decide +kernel)) (fun _ h9 => h9) rfl dX12_find_105 ?_
  refine lv_iconst (v := 5) hx hb dX12_find_108 (by decide) ?_
  refine lv_iload hx hb dX12_find_109 (lv_at hl 6 rfl) ?_
  refine lv_imul hx hb dX12_find_111 ?_
  refine lv_iconst (v := 4) hx hb dX12_find_112 (by decide) ?_
  refine lv_iadd hx hb dX12_find_113 ?_
  refine lv_iload hx hb dX12_find_114 (lv_at hl 5 rfl) ?_
  obtain ⟨b23, h⟩ := gB_e h
  refine wr_iast hx hb hK hP hJ hS (k := 10) (by decide) 0 (tM_10 Z) rfl b23 dX12_find_116 (fun H locs hP hS => ?_)
  obtain ⟨σ24, e25, h⟩ := lS_e h
  rw [← e25] at hP
  refine lv_aload_n hx hb dX12_find_117 rfl (lv_at hl 0 rfl) ?_
  refine lv_dup hx hb dX12_find_118 rfl ?_
  refine wr_get (C := RX12) (T := TX12) (N := 41) hx hb hts (in_X12_find_X12) hown hK hP (k := 0) (by decide) ((tM_0 Z) _ _ _) rfl 25 (by decide) (hts (.fieldLink RX12 204 "TuneSearchModel" "foundCount" "I") (by decide +kernel)) (fun _ h9 => h9) rfl dX12_find_119 ?_
  refine lv_iconst (v := 1) hx hb dX12_find_122 (by decide) ?_
  refine lv_iadd hx hb dX12_find_123 ?_
  refine wr_put (C := RX12) (T := TX12) (N := 41) (σ' := sI σ24 0 25 ((σ24.1 0 25) + 1)) (ty := .int) hx hb hts (in_X12_find_X12) tyX12 tyX12_ok nmX12 hown hK hP hJ hS (k := 0) (by decide) ((tM_0 Z) _ _ _) rfl 25 (by decide) (hts (.fieldLink RX12 204 "TuneSearchModel" "foundCount" "I") (by decide +kernel)) (fun _ h9 => h9) rfl (by decide +kernel) rfl rfl (Nat.le_of_ble_eq_true rfl) (ws_pI (tM_0 Z) rfl) dX12_find_124 (fun H locs hP hS => ?_)
  obtain ⟨σ26, e27, h⟩ := lS_e h
  rw [← e27] at hP
  exact xr_vret hx hb hr hlocks hE hJ hK hP hS h dX12_find_127
def m_X12_find_6_s    (c6 : SG → Int32 → Int32 → Int32 → Int32 → Int32 → Int32 → Option (Unit × SG)) (σ : SG) (l1 : Int32) (l2 : Int32) (l3 : Int32) (l4 : Int32) (l5 : Int32) (l6 : Int32) : Option (Unit × SG) :=
  if l6 ≤ 0 then (m_X12_find_57    σ l1 l2 l3 l4 l5 l6) else (gB (inB ((5 * (l6 - 1)) + 3) 1000) (if (σ.1 10 ((5 * (l6 - 1)) + 3).toNatClampNeg) ≤ l4 then (m_X12_find_57    σ l1 l2 l3 l4 l5 l6) else (gB (cpB (5 * (l6 - 1)) (5 * l6) 5 1000 1000) (lS (sA σ 10 (va_cpy (σ.1 10) (σ.1 10) (5 * (l6 - 1)).toNatClampNeg (5 * l6).toNatClampNeg (5 : Int32).toNatClampNeg)) (fun σ7 => lS (l6 + (-1)) (fun v9 => c6 σ7 l1 l2 l3 l4 l5 v9))))))
def m_X12_find_6    : Nat → SG → Int32 → Int32 → Int32 → Int32 → Int32 → Int32 → Option (Unit × SG)
  | 0, _, _, _, _, _, _, _ => none
  | n + 1, σ, l1, l2, l3, l4, l5, l6 => m_X12_find_6_s    (m_X12_find_6    n) σ l1 l2 l3 l4 l5 l6
set_option maxHeartbeats 4000000 in
set_option maxRecDepth 100000 in
theorem kb_X12_find_6 {p : Program} {l : Launch} {e : Env} {s : State} {m : MethodId} {args : Array Value} {below : List Frame} {meth : Method} {c : Code} {E : EF} (Z : ZT)    (C : cy p s m args meth c cX12_find none 7 RX12 wsX12_find E (zD Z) vwCl 24 (za Z) (tysM Z)) {res : Unit × SG}   : ∀ (n : Nat) (σ : SG) (l1 : Int32) (l2 : Int32) (l3 : Int32) (l4 : Int32) (l5 : Int32) (l6 : Int32) , m_X12_find_6    n σ l1 l2 l3 l4 l5 l6 = some res → ∀ (H : Heap) (locs : List Loc), ws_P (zD Z) vwCl 24 (za Z) (tM Z) σ H → va_S (ws_A 24 (za Z)) s.heap H locs → ∀ (ls : Array Slot), lv_has ls 7 [(0, .ref (za Z 0)), (1, .int l1), (2, .int l2), (3, .int l3), (4, .int l4), (5, .int l5), (6, .int l6)] → W p l e rm_X12_find s m args below meth c H locs 0 0 (MQ below (xQv E (zD Z) vwCl 24 (za Z) (tM Z) (tysM Z) res) args s 0 0 (ws_A 24 (za Z))) (F0 m 6 ls []) := by
  have C0 := C
  obtain ⟨hx, hb, hr, hlocks, hml, hown, hts, hE, hJ, hK⟩ := C0
  intro n
  induction n with
  | zero =>
    intro σ l1 l2 l3 l4 l5 l6  h
    cases h
  | succ n ih =>
    intro σ l1 l2 l3 l4 l5 l6  h H locs hP hS ls hl
    have hc6 : ∀ (σ : SG) (l1 : Int32) (l2 : Int32) (l3 : Int32) (l4 : Int32) (l5 : Int32) (l6 : Int32) , m_X12_find_6    n σ l1 l2 l3 l4 l5 l6 = some res → ∀ (H : Heap) (locs : List Loc), ws_P (zD Z) vwCl 24 (za Z) (tM Z) σ H → va_S (ws_A 24 (za Z)) s.heap H locs → ∀ (ls : Array Slot), lv_has ls 7 [(0, .ref (za Z 0)), (1, .int l1), (2, .int l2), (3, .int l3), (4, .int l4), (5, .int l5), (6, .int l6)] → W p l e rm_X12_find s m args below meth c H locs 0 0 (MQ below (xQv E (zD Z) vwCl 24 (za Z) (tM Z) (tysM Z) res) args s 0 0 (ws_A 24 (za Z))) (F0 m 6 ls []) := ih
    have h : m_X12_find_6_s    (m_X12_find_6    n) σ l1 l2 l3 l4 l5 l6 = some res := h
    unfold m_X12_find_6_s at h
    refine lv_iload hx hb dX12_find_6 (lv_at hl 6 rfl) ?_
    refine lv_if_le (tgt := 57) hx hb dX12_find_8 (by decide) (fun q3 => ?_) (fun q3 => ?_)
    · have h := if_p h q3
      exact kb_X12_find_57 Z    C   σ l1 l2 l3 l4 l5 l6 h H locs hP hS ls (lv_sub hl [0, 1, 2, 3, 4, 5, 6] rfl)
    · have h := if_n h q3
      refine lv_aload_n hx hb dX12_find_11 rfl (lv_at hl 0 rfl) ?_
      refine wr_get (C := RX12) (T := TX12) (N := 41) hx hb hts (in_X12_find_X12) hown hK hP (k := 0) (by decide) ((tM_0 Z) _ _ _) rfl 24 (by decide) (hts (.fieldLink RX12 44 "TuneSearchModel" "found" "[I") (by decide +kernel)) (fun _ h9 => h9) rfl dX12_find_12 ?_
      refine lv_iconst (v := 5) hx hb dX12_find_15 (by decide) ?_
      refine lv_iload hx hb dX12_find_16 (lv_at hl 6 rfl) ?_
      refine lv_iconst (v := 1) hx hb dX12_find_18 (by decide) ?_
      refine lv_isub hx hb dX12_find_19 ?_
      refine lv_imul hx hb dX12_find_20 ?_
      refine lv_iconst (v := 3) hx hb dX12_find_21 (by decide) ?_
      refine lv_iadd hx hb dX12_find_22 ?_
      obtain ⟨b4, h⟩ := gB_e h
      refine wr_iald hx hb hK hP (k := 10) (by decide) 0 ((tM_10 Z) _ _ _) rfl b4 dX12_find_23 ?_
      refine lv_iload hx hb dX12_find_24 (lv_at hl 4 rfl) ?_
      refine lv_icmp_le (tgt := 57) hx hb dX12_find_26 (by decide) (fun q5 => ?_) (fun q5 => ?_)
      · have h := if_p h q5
        exact kb_X12_find_57 Z    C   σ l1 l2 l3 l4 l5 l6 h H locs hP hS ls (lv_sub hl [0, 1, 2, 3, 4, 5, 6] rfl)
      · have h := if_n h q5
        refine lv_aload_n hx hb dX12_find_29 rfl (lv_at hl 0 rfl) ?_
        refine wr_get (C := RX12) (T := TX12) (N := 41) hx hb hts (in_X12_find_X12) hown hK hP (k := 0) (by decide) ((tM_0 Z) _ _ _) rfl 24 (by decide) (hts (.fieldLink RX12 44 "TuneSearchModel" "found" "[I") (by decide +kernel)) (fun _ h9 => h9) rfl dX12_find_30 ?_
        refine lv_iconst (v := 5) hx hb dX12_find_33 (by decide) ?_
        refine lv_iload hx hb dX12_find_34 (lv_at hl 6 rfl) ?_
        refine lv_iconst (v := 1) hx hb dX12_find_36 (by decide) ?_
        refine lv_isub hx hb dX12_find_37 ?_
        refine lv_imul hx hb dX12_find_38 ?_
        refine lv_aload_n hx hb dX12_find_39 rfl (lv_at hl 0 rfl) ?_
        refine wr_get (C := RX12) (T := TX12) (N := 41) hx hb hts (in_X12_find_X12) hown hK hP (k := 0) (by decide) ((tM_0 Z) _ _ _) rfl 24 (by decide) (hts (.fieldLink RX12 44 "TuneSearchModel" "found" "[I") (by decide +kernel)) (fun _ h9 => h9) rfl dX12_find_40 ?_
        refine lv_iconst (v := 5) hx hb dX12_find_43 (by decide) ?_
        refine lv_iload hx hb dX12_find_44 (lv_at hl 6 rfl) ?_
        refine lv_imul hx hb dX12_find_46 ?_
        refine lv_iconst (v := 5) hx hb dX12_find_47 (by decide) ?_
        obtain ⟨b6, h⟩ := gB_e h
        refine wr_copyi hx hb (by rw [hml]; exact hl.1.symm) hown (hts (.methodLink RX12 185 arraycopyName) (by decide +kernel)) (hts (.native arraycopyName) (by decide +kernel)) (hts (.static arraycopyName) (by decide +kernel)) (hts (.initialized "java/lang/System") (by decide +kernel)) hK hP hJ hS (k0 := 10) (k1 := 10) (by decide) (by decide) 0 ((tM_10 Z) _ _ _) (tM_10 Z) rfl b6 (Nat.le_of_ble_eq_true rfl) (Nat.le_of_ble_eq_true rfl) dX12_find_48 (fun H locs hP hS => ?_)
        obtain ⟨σ7, e8, h⟩ := lS_e h
        rw [← e8] at hP
        obtain ⟨v9, e10, h⟩ := lS_e h
        refine lv_iinc (v := v9) (lv' := [(6, .int v9), (0, .ref (za Z 0)), (1, .int l1), (2, .int l2), (3, .int l3), (4, .int l4), (5, .int l5)]) hx hb dX12_find_51 hl (k := 6) rfl (by rw [e10]; rfl) (by decide) rfl (fun ls hl => ?_)
        refine lv_goto (tgt := 6) hx hb dX12_find_54 (by decide) ?_
        exact hc6 σ7 l1 l2 l3 l4 l5 v9 h H locs hP hS ls (lv_sub hl [1, 2, 3, 4, 5, 6, 0] rfl)
def m_X12_find_0    (σ : SG) (p0 : Int32) (p1 : Int32) (p2 : Int32) (p3 : Int32) (p4 : Int32) : Option (Unit × SG) :=
  lS (σ.1 0 25) (fun v1 => m_X12_find_6    FV σ p0 p1 p2 p3 p4 v1)
set_option maxHeartbeats 4000000 in
set_option maxRecDepth 100000 in
theorem kb_X12_find_0 {p : Program} {l : Launch} {e : Env} {s : State} {m : MethodId} {args : Array Value} {below : List Frame} {meth : Method} {c : Code} {E : EF} (Z : ZT)    (C : cy p s m args meth c cX12_find none 7 RX12 wsX12_find E (zD Z) vwCl 24 (za Z) (tysM Z)) {res : Unit × SG}   : ∀ (σ : SG) (p0 : Int32) (p1 : Int32) (p2 : Int32) (p3 : Int32) (p4 : Int32) , m_X12_find_0    σ p0 p1 p2 p3 p4 = some res → ∀ (H : Heap) (locs : List Loc), ws_P (zD Z) vwCl 24 (za Z) (tM Z) σ H → va_S (ws_A 24 (za Z)) s.heap H locs → ∀ (ls : Array Slot), lv_has ls 7 [(0, .ref (za Z 0)), (1, .int p0), (2, .int p1), (3, .int p2), (4, .int p3), (5, .int p4)] → W p l e rm_X12_find s m args below meth c H locs 0 0 (MQ below (xQv E (zD Z) vwCl 24 (za Z) (tM Z) (tysM Z) res) args s 0 0 (ws_A 24 (za Z))) (F0 m 0 ls []) := by
  have C0 := C
  obtain ⟨hx, hb, hr, hlocks, hml, hown, hts, hE, hJ, hK⟩ := C0
  intro σ p0 p1 p2 p3 p4  h H locs hP hS ls hl
  unfold m_X12_find_0 at h
  refine lv_aload_n hx hb dX12_find_0 rfl (lv_at hl 0 rfl) ?_
  refine wr_get (C := RX12) (T := TX12) (N := 41) hx hb hts (in_X12_find_X12) hown hK hP (k := 0) (by decide) ((tM_0 Z) _ _ _) rfl 25 (by decide) (hts (.fieldLink RX12 204 "TuneSearchModel" "foundCount" "I") (by decide +kernel)) (fun _ h9 => h9) rfl dX12_find_1 ?_
  refine lv_topi (fun v1 e2 => ?_)
  have h := lS_u h e2
  refine lv_istore (lv' := [(6, .int v1), (0, .ref (za Z 0)), (1, .int p0), (2, .int p1), (3, .int p2), (4, .int p3), (5, .int p4)]) hx hb dX12_find_4 hl (by decide) rfl (fun ls hl => ?_)
  exact kb_X12_find_6 Z    C   FV σ p0 p1 p2 p3 p4 v1 h H locs hP hS ls (lv_sub hl [1, 2, 3, 4, 5, 6, 0] rfl)
def m_X12_find   (σ : SG) (p0 : Int32) (p1 : Int32) (p2 : Int32) (p3 : Int32) (p4 : Int32) : Option (Unit × SG) := m_X12_find_0   σ p0 p1 p2 p3 p4
set_option maxHeartbeats 4000000 in
set_option maxRecDepth 100000 in
theorem k_X12_find (l : Launch) {E : EF} (Z : ZT)    (σ : SG) (p0 : Int32) (p1 : Int32) (p2 : Int32) (p3 : Int32) (p4 : Int32) {res : Unit × SG} (h : m_X12_find   σ p0 p1 p2 p3 p4 = some res) : Met l yX12_find wsX12_find rm_X12_find (va_Pc [.ref (za Z 0), .int p0, .int p1, .int p2, .int p3, .int p4] (wx E (zD Z) vwCl 24 (za Z) (tM Z) (tysM Z) σ)) (xQv E (zD Z) vwCl 24 (za Z) (tM Z) (tysM Z) res) 0 0 (ws_A 24 (za Z)) := by
  refine Met.ofW (cc := cX12_find) (maxL := 7) (ret := none) (by decide) rfl ?_
  intro p e s m args below meth c s₁ B hml hv
  obtain ⟨rfl, hE, hJ, hP, hK⟩ := hv
  have hl := lv_entry ([.ref (za Z 0), .int p0, .int p1, .int p2, .int p3, .int p4]) (n := 7) (Nat.le_of_ble_eq_true rfl)
  rw [lg_entry_eq]
  generalize (lg_sl ([.ref (za Z 0), .int p0, .int p1, .int p2, .int p3, .int p4]) ++ List.replicate (7 - (lg_sl ([.ref (za Z 0), .int p0, .int p1, .int p2, .int p3, .int p4])).length) Slot.unset).toArray = ls at hl ⊢
  exact kb_X12_find_0 Z    ⟨B.exec, B.bytes, B.returns, B.notSynchronized, hml, findClass_of_methodNamed B.named, atoms_spec (ws := wsX12_find) B.pre, hE, hJ, hK⟩ σ p0 p1 p2 p3 p4 h s.heap [] hP va_S.rf ls hl
/-! TuneSearchModel.find(I)I -/
abbrev rm_X12_find_ : Room := { frames := 801, cells := 0, slots := 0, locals := 24028 }
theorem in_X12_find__X12 : ∀ w ∈ wsX120, w ∈ wsX12_find_ := by decide +kernel
def m_X12_find__98   (c24 : SG → Int32 → Int32 → Option (Int32 × SG)) (c48 : SG → Int32 → Int32 → Int32 → Option (Int32 × SG)) (σ : SG) (l1 : Int32) (l2 : Int32) (l3 : Int32) : Option (Int32 × SG) :=
  lS (l3 + 1) (fun v27 => c48 σ l1 l2 v27)
set_option maxHeartbeats 4000000 in
set_option maxRecDepth 100000 in
theorem kb_X12_find__98 {p : Program} {l : Launch} {e : Env} {s : State} {m : MethodId} {args : Array Value} {below : List Frame} {meth : Method} {c : Code} {E : EF} (Z : ZT)    (C : cy p s m args meth c cX12_find_ (some .int) 5 RX12 wsX12_find_ E (zD Z) vwCl 24 (za Z) (tysM Z)) {res : Int32 × SG} {c24 : SG → Int32 → Int32 → Option (Int32 × SG)} {c48 : SG → Int32 → Int32 → Int32 → Option (Int32 × SG)} (hc24 : ∀ (σ : SG) (l1 : Int32) (l2 : Int32) , c24 σ l1 l2 = some res → ∀ (H : Heap) (locs : List Loc), ws_P (zD Z) vwCl 24 (za Z) (tM Z) σ H → va_S (ws_A 24 (za Z)) s.heap H locs → ∀ (ls : Array Slot), lv_has ls 5 [(0, .ref (za Z 0)), (1, .int l1), (2, .int l2)] → W p l e rm_X12_find_ s m args below meth c H locs 0 0 (MQ below (xQi E (zD Z) vwCl 24 (za Z) (tM Z) (tysM Z) res) args s 0 0 (ws_A 24 (za Z))) (F0 m 24 ls [])) (hc48 : ∀ (σ : SG) (l1 : Int32) (l2 : Int32) (l3 : Int32) , c48 σ l1 l2 l3 = some res → ∀ (H : Heap) (locs : List Loc), ws_P (zD Z) vwCl 24 (za Z) (tM Z) σ H → va_S (ws_A 24 (za Z)) s.heap H locs → ∀ (ls : Array Slot), lv_has ls 5 [(0, .ref (za Z 0)), (1, .int l1), (2, .int l2), (3, .int l3)] → W p l e rm_X12_find_ s m args below meth c H locs 0 0 (MQ below (xQi E (zD Z) vwCl 24 (za Z) (tM Z) (tysM Z) res) args s 0 0 (ws_A 24 (za Z))) (F0 m 48 ls [])) : ∀ (σ : SG) (l1 : Int32) (l2 : Int32) (l3 : Int32) , m_X12_find__98   c24 c48 σ l1 l2 l3 = some res → ∀ (H : Heap) (locs : List Loc), ws_P (zD Z) vwCl 24 (za Z) (tM Z) σ H → va_S (ws_A 24 (za Z)) s.heap H locs → ∀ (ls : Array Slot), lv_has ls 5 [(0, .ref (za Z 0)), (1, .int l1), (2, .int l2), (3, .int l3)] → W p l e rm_X12_find_ s m args below meth c H locs 0 0 (MQ below (xQi E (zD Z) vwCl 24 (za Z) (tM Z) (tysM Z) res) args s 0 0 (ws_A 24 (za Z))) (F0 m 98 ls []) := by
  have C0 := C
  obtain ⟨hx, hb, hr, hlocks, hml, hown, hts, hE, hJ, hK⟩ := C0
  intro σ l1 l2 l3  h H locs hP hS ls hl
  unfold m_X12_find__98 at h
  obtain ⟨v27, e28, h⟩ := lS_e h
  refine lv_iinc (v := v27) (lv' := [(3, .int v27), (0, .ref (za Z 0)), (1, .int l1), (2, .int l2)]) hx hb dX12_find__98 hl (k := 3) rfl (by rw [e28]; rfl) (by decide) rfl (fun ls hl => ?_)
  refine lv_goto (tgt := 48) hx hb dX12_find__101 (by decide) ?_
  exact hc48 σ l1 l2 v27 h H locs hP hS ls (lv_sub hl [1, 2, 3, 0] rfl)
def m_X12_find__48_s   (c24 : SG → Int32 → Int32 → Option (Int32 × SG)) (c48 : SG → Int32 → Int32 → Int32 → Option (Int32 × SG)) (σ : SG) (l1 : Int32) (l2 : Int32) (l3 : Int32) : Option (Int32 × SG) :=
  if (σ.1 0 23) ≤ l3 then (lS (l2 + 1) (fun v13 => c24 σ l1 v13)) else (bi (t_beh 400 σ (σ.1 0 21) (1 <<< (l3 &&& 31))) (fun v15 σ16 => lS (v15 &&& ((1 <<< (l3 &&& 31)) ^^^ (-1))) (fun v18 => if v18 = 0 then (m_X12_find__98   c24 c48 σ16 l1 l2 l3) else (bi (m_J6_numberOfLeadingZeros_0f7a4  σ16 v18) (fun v21 σ22 => bi (m_X12_find  σ22 l2 l3 ((31 - v21) - l3) 0 0) (fun v24 σ25 => m_X12_find__98   c24 c48 σ25 l1 l2 l3))))))
def m_X12_find__48   (c24 : SG → Int32 → Int32 → Option (Int32 × SG)) : Nat → SG → Int32 → Int32 → Int32 → Option (Int32 × SG)
  | 0, _, _, _, _ => none
  | n + 1, σ, l1, l2, l3 => m_X12_find__48_s   c24 (m_X12_find__48   c24 n) σ l1 l2 l3
set_option maxHeartbeats 4000000 in
set_option maxRecDepth 100000 in
theorem kb_X12_find__48 {p : Program} {l : Launch} {e : Env} {s : State} {m : MethodId} {args : Array Value} {below : List Frame} {meth : Method} {c : Code} {E : EF} (Z : ZT)    (C : cy p s m args meth c cX12_find_ (some .int) 5 RX12 wsX12_find_ E (zD Z) vwCl 24 (za Z) (tysM Z)) {res : Int32 × SG} {c24 : SG → Int32 → Int32 → Option (Int32 × SG)} (hc24 : ∀ (σ : SG) (l1 : Int32) (l2 : Int32) , c24 σ l1 l2 = some res → ∀ (H : Heap) (locs : List Loc), ws_P (zD Z) vwCl 24 (za Z) (tM Z) σ H → va_S (ws_A 24 (za Z)) s.heap H locs → ∀ (ls : Array Slot), lv_has ls 5 [(0, .ref (za Z 0)), (1, .int l1), (2, .int l2)] → W p l e rm_X12_find_ s m args below meth c H locs 0 0 (MQ below (xQi E (zD Z) vwCl 24 (za Z) (tM Z) (tysM Z) res) args s 0 0 (ws_A 24 (za Z))) (F0 m 24 ls [])) : ∀ (n : Nat) (σ : SG) (l1 : Int32) (l2 : Int32) (l3 : Int32) , m_X12_find__48   c24 n σ l1 l2 l3 = some res → ∀ (H : Heap) (locs : List Loc), ws_P (zD Z) vwCl 24 (za Z) (tM Z) σ H → va_S (ws_A 24 (za Z)) s.heap H locs → ∀ (ls : Array Slot), lv_has ls 5 [(0, .ref (za Z 0)), (1, .int l1), (2, .int l2), (3, .int l3)] → W p l e rm_X12_find_ s m args below meth c H locs 0 0 (MQ below (xQi E (zD Z) vwCl 24 (za Z) (tM Z) (tysM Z) res) args s 0 0 (ws_A 24 (za Z))) (F0 m 48 ls []) := by
  have C0 := C
  obtain ⟨hx, hb, hr, hlocks, hml, hown, hts, hE, hJ, hK⟩ := C0
  intro n
  induction n with
  | zero =>
    intro σ l1 l2 l3  h
    cases h
  | succ n ih =>
    intro σ l1 l2 l3  h H locs hP hS ls hl
    have hc48 : ∀ (σ : SG) (l1 : Int32) (l2 : Int32) (l3 : Int32) , m_X12_find__48   c24 n σ l1 l2 l3 = some res → ∀ (H : Heap) (locs : List Loc), ws_P (zD Z) vwCl 24 (za Z) (tM Z) σ H → va_S (ws_A 24 (za Z)) s.heap H locs → ∀ (ls : Array Slot), lv_has ls 5 [(0, .ref (za Z 0)), (1, .int l1), (2, .int l2), (3, .int l3)] → W p l e rm_X12_find_ s m args below meth c H locs 0 0 (MQ below (xQi E (zD Z) vwCl 24 (za Z) (tM Z) (tysM Z) res) args s 0 0 (ws_A 24 (za Z))) (F0 m 48 ls []) := ih
    have h : m_X12_find__48_s   c24 (m_X12_find__48   c24 n) σ l1 l2 l3 = some res := h
    unfold m_X12_find__48_s at h
    refine lv_iload_n hx hb dX12_find__48 rfl (lv_at hl 3 rfl) ?_
    refine lv_aload_n hx hb dX12_find__49 rfl (lv_at hl 0 rfl) ?_
    refine wr_get (C := RX12) (T := TX12) (N := 41) hx hb hts (in_X12_find__X12) hown hK hP (k := 0) (by decide) ((tM_0 Z) _ _ _) rfl 23 (by decide) (hts (.fieldLink RX12 191 "TuneSearchModel" "signCount" "I") (by decide +kernel)) (fun _ h9 => h9) rfl dX12_find__50 ?_
    refine lv_icmp_ge (tgt := 104) hx hb dX12_find__53 (by decide) (fun q12 => ?_) (fun q12 => ?_)
    · have h := if_p h q12
      obtain ⟨v13, e14, h⟩ := lS_e h
      refine lv_iinc (v := v13) (lv' := [(2, .int v13), (0, .ref (za Z 0)), (1, .int l1), (3, .int l3)]) hx hb dX12_find__104 hl (k := 2) rfl (by rw [e14]; rfl) (by decide) rfl (fun ls hl => ?_)
      refine lv_goto (tgt := 24) hx hb dX12_find__107 (by decide) ?_
      exact hc24 σ l1 v13 h H locs hP hS ls (lv_sub hl [1, 2, 0] rfl)
    · have h := if_n h q12
      refine lv_aload_n hx hb dX12_find__56 rfl (lv_at hl 0 rfl) ?_
      refine lv_aload_n hx hb dX12_find__57 rfl (lv_at hl 0 rfl) ?_
      refine wr_get (C := RX12) (T := TX12) (N := 41) hx hb hts (in_X12_find__X12) hown hK hP (k := 0) (by decide) ((tM_0 Z) _ _ _) rfl 21 (by decide) (hts (.fieldLink RX12 37 "TuneSearchModel" "root" "I") (by decide +kernel)) (fun _ h9 => h9) rfl dX12_find__58 ?_
      refine lv_iconst (v := 1) hx hb dX12_find__61 (by decide) ?_
      refine lv_iload_n hx hb dX12_find__62 rfl (lv_at hl 3 rfl) ?_
      refine lv_ishl hx hb dX12_find__63 ?_
      obtain ⟨v15, σ16, hm17, h⟩ := bi_e h
      refine xr_calli (res := (v15, σ16)) (va_runV (As := [.int (σ.1 0 21), .int (1 <<< (l3 &&& 31))]) (rest := []) ⟨hx, hb, hml, hown, hts⟩ (k_beh l Z 400 σ (σ.1 0 21) (1 <<< (l3 &&& 31)) _ hm17) (cwV 2 hts gX12_find__X12_behind rfl rfl rfl (by decide +kernel) ⟨Nat.le_of_ble_eq_true rfl, Nat.le_of_ble_eq_true rfl⟩) ⟨wx_blind, wr_recv hK hP (k := 0) (by decide) ((tM_0 Z) _ _ _) rfl, fun U hU hW => ⟨rfl, wx_at hE hJ hP hK hS hU hW⟩⟩ rfl rfl hl.1 rfl (lv_room (Nat.le_of_ble_eq_true rfl)) dX12_find__64 ⟨Nat.le_of_ble_eq_true rfl, Nat.le_of_ble_eq_true rfl⟩) hS (fun H locs hP hS => ?_)
      have hP : ws_P (zD Z) vwCl 24 (za Z) (tM Z) σ16 H := hP
      refine lv_iconst (v := 1) hx hb dX12_find__67 (by decide) ?_
      refine lv_iload_n hx hb dX12_find__68 rfl (lv_at hl 3 rfl) ?_
      refine lv_ishl hx hb dX12_find__69 ?_
      refine lv_iconst (v := (-1)) hx hb dX12_find__70 (by decide) ?_
      refine lv_ixor hx hb dX12_find__71 ?_
      refine lv_iand hx hb dX12_find__72 ?_
      refine lv_topi (fun v18 e19 => ?_)
      have h := lS_u h e19
      refine lv_istore (lv' := [(4, .int v18), (0, .ref (za Z 0)), (1, .int l1), (2, .int l2), (3, .int l3)]) hx hb dX12_find__73 hl (by decide) rfl (fun ls hl => ?_)
      refine lv_iload hx hb dX12_find__75 (lv_at hl 0 rfl) ?_
      refine lv_if_eq (tgt := 98) hx hb dX12_find__77 (by decide) (fun q20 => ?_) (fun q20 => ?_)
      · have h := if_p h q20
        exact kb_X12_find__98 Z    C  hc24 hc48 σ16 l1 l2 l3 h H locs hP hS ls (lv_sub hl [1, 2, 3, 4] rfl)
      · have h := if_n h q20
        refine lv_aload_n hx hb dX12_find__80 rfl (lv_at hl 1 rfl) ?_
        refine lv_iload_n hx hb dX12_find__81 rfl (lv_at hl 3 rfl) ?_
        refine lv_iload_n hx hb dX12_find__82 rfl (lv_at hl 4 rfl) ?_
        refine lv_bipush (v := 31) hx hb dX12_find__83 (by decide) ?_
        refine lv_iload hx hb dX12_find__85 (lv_at hl 0 rfl) ?_
        obtain ⟨v21, σ22, hm23, h⟩ := bi_e h
        refine xr_calli (res := (v21, σ22)) (va_runS (As := [.int v18]) (rest := [.int 31, .int l3, .int l2, .ref (za Z 0)]) ⟨hx, hb, hml, hown, hts⟩ (k_J6_numberOfLeadingZeros_0f7a4 l Z   σ16 v18 hm23) (va_cwS 1 hts gX12_find__J6_numberOfLeadingZeros_0f7a4 rfl rfl rfl (by decide +kernel) ⟨Nat.le_of_ble_eq_true rfl, Nat.le_of_ble_eq_true rfl⟩) ⟨wx_blind, fun U hU hW => ⟨rfl, wx_at hE hJ hP hK hS hU hW⟩⟩ rfl rfl hl.1 rfl (lv_room (Nat.le_of_ble_eq_true rfl)) dX12_find__87 ⟨Nat.le_of_ble_eq_true rfl, Nat.le_of_ble_eq_true rfl⟩) hS (fun H locs hP hS => ?_)
        have hP : ws_P (zD Z) vwCl 24 (za Z) (tM Z) σ22 H := hP
        refine lv_isub hx hb dX12_find__90 ?_
        refine lv_iload_n hx hb dX12_find__91 rfl (lv_at hl 4 rfl) ?_
        refine lv_isub hx hb dX12_find__92 ?_
        refine lv_iconst (v := 0) hx hb dX12_find__93 (by decide) ?_
        refine lv_iconst (v := 0) hx hb dX12_find__94 (by decide) ?_
        obtain ⟨v24, σ25, hm26, h⟩ := bi_e h
        refine xr_callv (res := (v24, σ25)) (va_runV (As := [.int l2, .int l3, .int ((31 - v21) - l3), .int 0, .int 0]) (rest := []) ⟨hx, hb, hml, hown, hts⟩ (k_X12_find l Z   σ22 l2 l3 ((31 - v21) - l3) 0 0 hm26) (cwV 5 hts gX12_find__X12_find rfl rfl rfl (by decide +kernel) ⟨Nat.le_of_ble_eq_true rfl, Nat.le_of_ble_eq_true rfl⟩) ⟨wx_blind, wr_recv hK hP (k := 0) (by decide) ((tM_0 Z) _ _ _) rfl, fun U hU hW => ⟨rfl, wx_at hE hJ hP hK hS hU hW⟩⟩ rfl rfl hl.1 rfl (lv_room (Nat.le_of_ble_eq_true rfl)) dX12_find__95 ⟨Nat.le_of_ble_eq_true rfl, Nat.le_of_ble_eq_true rfl⟩) hS (fun H locs hP hS => ?_)
        have hP : ws_P (zD Z) vwCl 24 (za Z) (tM Z) σ25 H := hP
        exact kb_X12_find__98 Z    C  hc24 hc48 σ25 l1 l2 l3 h H locs hP hS ls (lv_sub hl [1, 2, 3, 4] rfl)
def m_X12_find__24_s    (c24 : SG → Int32 → Int32 → Option (Int32 × SG)) (σ : SG) (l1 : Int32) (l2 : Int32) : Option (Int32 × SG) :=
  if (σ.1 0 4) ≤ l2 then (some (σ.1 0 25, σ)) else (if (σ.1 0 21) = (-1) then (some (σ.1 0 25, σ)) else (bi (m_X12_look  σ l2 l1) (fun v9 σ10 => m_X12_find__48   c24 FV σ10 l1 l2 0)))
def m_X12_find__24    : Nat → SG → Int32 → Int32 → Option (Int32 × SG)
  | 0, _, _, _ => none
  | n + 1, σ, l1, l2 => m_X12_find__24_s    (m_X12_find__24    n) σ l1 l2
set_option maxHeartbeats 4000000 in
set_option maxRecDepth 100000 in
theorem kb_X12_find__24 {p : Program} {l : Launch} {e : Env} {s : State} {m : MethodId} {args : Array Value} {below : List Frame} {meth : Method} {c : Code} {E : EF} (Z : ZT)    (C : cy p s m args meth c cX12_find_ (some .int) 5 RX12 wsX12_find_ E (zD Z) vwCl 24 (za Z) (tysM Z)) {res : Int32 × SG}   : ∀ (n : Nat) (σ : SG) (l1 : Int32) (l2 : Int32) , m_X12_find__24    n σ l1 l2 = some res → ∀ (H : Heap) (locs : List Loc), ws_P (zD Z) vwCl 24 (za Z) (tM Z) σ H → va_S (ws_A 24 (za Z)) s.heap H locs → ∀ (ls : Array Slot), lv_has ls 5 [(0, .ref (za Z 0)), (1, .int l1), (2, .int l2)] → W p l e rm_X12_find_ s m args below meth c H locs 0 0 (MQ below (xQi E (zD Z) vwCl 24 (za Z) (tM Z) (tysM Z) res) args s 0 0 (ws_A 24 (za Z))) (F0 m 24 ls []) := by
  have C0 := C
  obtain ⟨hx, hb, hr, hlocks, hml, hown, hts, hE, hJ, hK⟩ := C0
  intro n
  induction n with
  | zero =>
    intro σ l1 l2  h
    cases h
  | succ n ih =>
    intro σ l1 l2  h H locs hP hS ls hl
    have hc24 : ∀ (σ : SG) (l1 : Int32) (l2 : Int32) , m_X12_find__24    n σ l1 l2 = some res → ∀ (H : Heap) (locs : List Loc), ws_P (zD Z) vwCl 24 (za Z) (tM Z) σ H → va_S (ws_A 24 (za Z)) s.heap H locs → ∀ (ls : Array Slot), lv_has ls 5 [(0, .ref (za Z 0)), (1, .int l1), (2, .int l2)] → W p l e rm_X12_find_ s m args below meth c H locs 0 0 (MQ below (xQi E (zD Z) vwCl 24 (za Z) (tM Z) (tysM Z) res) args s 0 0 (ws_A 24 (za Z))) (F0 m 24 ls []) := ih
    have h : m_X12_find__24_s    (m_X12_find__24    n) σ l1 l2 = some res := h
    unfold m_X12_find__24_s at h
    refine lv_iload_n hx hb dX12_find__24 rfl (lv_at hl 2 rfl) ?_
    refine lv_aload_n hx hb dX12_find__25 rfl (lv_at hl 0 rfl) ?_
    refine wr_get (C := RX12) (T := TX12) (N := 41) hx hb hts (in_X12_find__X12) hown hK hP (k := 0) (by decide) ((tM_0 Z) _ _ _) rfl 4 (by decide) (hts (.fieldLink RX12 90 "TuneSearchModel" "tunes" "I") (by decide +kernel)) (fun _ h9 => h9) rfl dX12_find__26 ?_
    refine lv_icmp_ge (tgt := 110) hx hb dX12_find__29 (by decide) (fun q7 => ?_) (fun q7 => ?_)
    · have h := if_p h q7
      refine lv_aload_n hx hb dX12_find__110 rfl (lv_at hl 0 rfl) ?_
      refine wr_get (C := RX12) (T := TX12) (N := 41) hx hb hts (in_X12_find__X12) hown hK hP (k := 0) (by decide) ((tM_0 Z) _ _ _) rfl 25 (by decide) (hts (.fieldLink RX12 204 "TuneSearchModel" "foundCount" "I") (by decide +kernel)) (fun _ h9 => h9) rfl dX12_find__111 ?_
      exact xr_iret hx hb hr hlocks hE hJ hK hP hS h dX12_find__114
    · have h := if_n h q7
      refine lv_aload_n hx hb dX12_find__32 rfl (lv_at hl 0 rfl) ?_
      refine wr_get (C := RX12) (T := TX12) (N := 41) hx hb hts (in_X12_find__X12) hown hK hP (k := 0) (by decide) ((tM_0 Z) _ _ _) rfl 21 (by decide) (hts (.fieldLink RX12 37 "TuneSearchModel" "root" "I") (by decide +kernel)) (fun _ h9 => h9) rfl dX12_find__33 ?_
      refine lv_iconst (v := (-1)) hx hb dX12_find__36 (by decide) ?_
      refine lv_icmp_eq (tgt := 110) hx hb dX12_find__37 (by decide) (fun q8 => ?_) (fun q8 => ?_)
      · have h := if_p h q8
        refine lv_aload_n hx hb dX12_find__110 rfl (lv_at hl 0 rfl) ?_
        refine wr_get (C := RX12) (T := TX12) (N := 41) hx hb hts (in_X12_find__X12) hown hK hP (k := 0) (by decide) ((tM_0 Z) _ _ _) rfl 25 (by decide) (hts (.fieldLink RX12 204 "TuneSearchModel" "foundCount" "I") (by decide +kernel)) (fun _ h9 => h9) rfl dX12_find__111 ?_
        exact xr_iret hx hb hr hlocks hE hJ hK hP hS h dX12_find__114
      · have h := if_n h q8
        refine lv_aload_n hx hb dX12_find__40 rfl (lv_at hl 0 rfl) ?_
        refine lv_iload_n hx hb dX12_find__41 rfl (lv_at hl 2 rfl) ?_
        refine lv_iload_n hx hb dX12_find__42 rfl (lv_at hl 1 rfl) ?_
        obtain ⟨v9, σ10, hm11, h⟩ := bi_e h
        refine xr_callv (res := (v9, σ10)) (va_runV (As := [.int l2, .int l1]) (rest := []) ⟨hx, hb, hml, hown, hts⟩ (k_X12_look l Z   σ l2 l1 hm11) (cwV 2 hts gX12_find__X12_look rfl rfl rfl (by decide +kernel) ⟨Nat.le_of_ble_eq_true rfl, Nat.le_of_ble_eq_true rfl⟩) ⟨wx_blind, wr_recv hK hP (k := 0) (by decide) ((tM_0 Z) _ _ _) rfl, fun U hU hW => ⟨rfl, wx_at hE hJ hP hK hS hU hW⟩⟩ rfl rfl hl.1 rfl (lv_room (Nat.le_of_ble_eq_true rfl)) dX12_find__43 ⟨Nat.le_of_ble_eq_true rfl, Nat.le_of_ble_eq_true rfl⟩) hS (fun H locs hP hS => ?_)
        have hP : ws_P (zD Z) vwCl 24 (za Z) (tM Z) σ10 H := hP
        refine lv_iconst (v := 0) hx hb dX12_find__46 (by decide) ?_
        refine lv_istore_n (lv' := [(3, .int 0), (0, .ref (za Z 0)), (1, .int l1), (2, .int l2)]) hx hb dX12_find__47 rfl hl (by decide) rfl (fun ls hl => ?_)
        exact kb_X12_find__48 Z    C  hc24 FV σ10 l1 l2 0 h H locs hP hS ls (lv_sub hl [1, 2, 3, 0] rfl)
def m_X12_find__0    (σ : SG) (p0 : Int32) : Option (Int32 × SG) :=
  lS (sI σ 0 0 0) (fun σ1 => if p0 < 0 then (some ((-2), σ1)) else (if p0 ≤ 4 then (lS (sI σ1 0 25 0) (fun σ5 => m_X12_find__24    FV σ5 p0 0)) else (some ((-2), σ1))))
set_option maxHeartbeats 4000000 in
set_option maxRecDepth 100000 in
theorem kb_X12_find__0 {p : Program} {l : Launch} {e : Env} {s : State} {m : MethodId} {args : Array Value} {below : List Frame} {meth : Method} {c : Code} {E : EF} (Z : ZT)    (C : cy p s m args meth c cX12_find_ (some .int) 5 RX12 wsX12_find_ E (zD Z) vwCl 24 (za Z) (tysM Z)) {res : Int32 × SG}   : ∀ (σ : SG) (p0 : Int32) , m_X12_find__0    σ p0 = some res → ∀ (H : Heap) (locs : List Loc), ws_P (zD Z) vwCl 24 (za Z) (tM Z) σ H → va_S (ws_A 24 (za Z)) s.heap H locs → ∀ (ls : Array Slot), lv_has ls 5 [(0, .ref (za Z 0)), (1, .int p0)] → W p l e rm_X12_find_ s m args below meth c H locs 0 0 (MQ below (xQi E (zD Z) vwCl 24 (za Z) (tM Z) (tysM Z) res) args s 0 0 (ws_A 24 (za Z))) (F0 m 0 ls []) := by
  have C0 := C
  obtain ⟨hx, hb, hr, hlocks, hml, hown, hts, hE, hJ, hK⟩ := C0
  intro σ p0  h H locs hP hS ls hl
  unfold m_X12_find__0 at h
  refine lv_aload_n hx hb dX12_find__0 rfl (lv_at hl 0 rfl) ?_
  refine lv_iconst (v := 0) hx hb dX12_find__1 (by decide) ?_
  refine wr_put (C := RX12) (T := TX12) (N := 41) (σ' := sI σ 0 0 0) (ty := .int) hx hb hts (in_X12_find__X12) tyX12 tyX12_ok nmX12 hown hK hP hJ hS (k := 0) (by decide) ((tM_0 Z) _ _ _) rfl 0 (by decide) (hts (.fieldLink RX12 87 "TuneSearchModel" "code" "I") (by decide +kernel)) (fun _ h9 => h9) rfl (by decide +kernel) rfl rfl (Nat.le_of_ble_eq_true rfl) (ws_pI (tM_0 Z) rfl) dX12_find__2 (fun H locs hP hS => ?_)
  obtain ⟨σ1, e2, h⟩ := lS_e h
  rw [← e2] at hP
  refine lv_iload_n hx hb dX12_find__5 rfl (lv_at hl 1 rfl) ?_
  refine lv_if_lt (tgt := 14) hx hb dX12_find__6 (by decide) (fun q3 => ?_) (fun q3 => ?_)
  · have h := if_p h q3
    refine lv_bipush (v := (-2)) hx hb dX12_find__14 (by decide) ?_
    exact xr_iret hx hb hr hlocks hE hJ hK hP hS h dX12_find__16
  · have h := if_n h q3
    refine lv_iload_n hx hb dX12_find__9 rfl (lv_at hl 1 rfl) ?_
    refine lv_iconst (v := 4) hx hb dX12_find__10 (by decide) ?_
    refine lv_icmp_le (tgt := 17) hx hb dX12_find__11 (by decide) (fun q4 => ?_) (fun q4 => ?_)
    · have h := if_p h q4
      refine lv_aload_n hx hb dX12_find__17 rfl (lv_at hl 0 rfl) ?_
      refine lv_iconst (v := 0) hx hb dX12_find__18 (by decide) ?_
      refine wr_put (C := RX12) (T := TX12) (N := 41) (σ' := sI σ1 0 25 0) (ty := .int) hx hb hts (in_X12_find__X12) tyX12 tyX12_ok nmX12 hown hK hP hJ hS (k := 0) (by decide) ((tM_0 Z) _ _ _) rfl 25 (by decide) (hts (.fieldLink RX12 204 "TuneSearchModel" "foundCount" "I") (by decide +kernel)) (fun _ h9 => h9) rfl (by decide +kernel) rfl rfl (Nat.le_of_ble_eq_true rfl) (ws_pI (tM_0 Z) rfl) dX12_find__19 (fun H locs hP hS => ?_)
      obtain ⟨σ5, e6, h⟩ := lS_e h
      rw [← e6] at hP
      refine lv_iconst (v := 0) hx hb dX12_find__22 (by decide) ?_
      refine lv_istore_n (lv' := [(2, .int 0), (0, .ref (za Z 0)), (1, .int p0)]) hx hb dX12_find__23 rfl hl (by decide) rfl (fun ls hl => ?_)
      exact kb_X12_find__24 Z    C   FV σ5 p0 0 h H locs hP hS ls (lv_sub hl [1, 2, 0] rfl)
    · have h := if_n h q4
      refine lv_bipush (v := (-2)) hx hb dX12_find__14 (by decide) ?_
      exact xr_iret hx hb hr hlocks hE hJ hK hP hS h dX12_find__16
def m_X12_find_   (σ : SG) (p0 : Int32) : Option (Int32 × SG) := m_X12_find__0   σ p0
set_option maxHeartbeats 4000000 in
set_option maxRecDepth 100000 in
theorem k_X12_find_ (l : Launch) {E : EF} (Z : ZT)    (σ : SG) (p0 : Int32) {res : Int32 × SG} (h : m_X12_find_   σ p0 = some res) : Met l yX12_find_ wsX12_find_ rm_X12_find_ (va_Pc [.ref (za Z 0), .int p0] (wx E (zD Z) vwCl 24 (za Z) (tM Z) (tysM Z) σ)) (xQi E (zD Z) vwCl 24 (za Z) (tM Z) (tysM Z) res) 0 0 (ws_A 24 (za Z)) := by
  refine Met.ofW (cc := cX12_find_) (maxL := 5) (ret := (some .int)) (by decide) rfl ?_
  intro p e s m args below meth c s₁ B hml hv
  obtain ⟨rfl, hE, hJ, hP, hK⟩ := hv
  have hl := lv_entry ([.ref (za Z 0), .int p0]) (n := 5) (Nat.le_of_ble_eq_true rfl)
  rw [lg_entry_eq]
  generalize (lg_sl ([.ref (za Z 0), .int p0]) ++ List.replicate (5 - (lg_sl ([.ref (za Z 0), .int p0])).length) Slot.unset).toArray = ls at hl ⊢
  exact kb_X12_find__0 Z    ⟨B.exec, B.bytes, B.returns, B.notSynchronized, hml, findClass_of_methodNamed B.named, atoms_spec (ws := wsX12_find_) B.pre, hE, hJ, hK⟩ σ p0 h s.heap [] hP va_S.rf ls hl
