/-! TuneSearch$NoteRow.isRest(I)Z -/
abbrev rm_X4_isRest : Room := { frames := 0, cells := 0, slots := 0, locals := 0 }
theorem in_X4_isRest_X4 : ∀ w ∈ wsX40, w ∈ wsX4_isRest := by decide +kernel
def m_X4_isRest_0  (o : Nat)  (σ : SG) (p0 : Int32) : Option (Int32 × SG) :=
  gB (inB p0 (lenX (2 * o))) (if ¬ (σ.1 (2 * o) p0.toNatClampNeg) = (-1) then (some (0, σ)) else (some (1, σ)))
set_option maxHeartbeats 4000000 in
set_option maxRecDepth 100000 in
theorem kb_X4_isRest_0 {p : Program} {l : Launch} {e : Env} {s : State} {m : MethodId} {args : Array Value} {below : List Frame} {meth : Method} {c : Code} {E : EF} (Z : ZT)  (o : Nat) (ho : o < 9) (C : cy p s m args meth c cX4_isRest (some .boolean) 2 RX4 wsX4_isRest E (zD Z) vwCl 211 (za Z) (tysX Z)) {res : Int32 × SG}   : ∀ (σ : SG) (p0 : Int32) , m_X4_isRest_0  o  σ p0 = some res → ∀ (H : Heap) (locs : List Loc), ws_P (zD Z) vwCl 211 (za Z) (tX Z) σ H → va_S (ws_A 211 (za Z)) s.heap H locs → ∀ (ls : Array Slot), lv_has ls 2 [(0, .ref (za Z (156 + o))), (1, .int p0)] → W p l e rm_X4_isRest s m args below meth c H locs 0 0 (MQ below (xQi E (zD Z) vwCl 211 (za Z) (tX Z) (tysX Z) res) args s 0 0 (ws_A 211 (za Z))) (F0 m 0 ls []) := by
  have C0 := C
  obtain ⟨hx, hb, hr, hlocks, hml, hown, hts, hE, hJ, hK⟩ := C0
  intro σ p0  h H locs hP hS ls hl
  unfold m_X4_isRest_0 at h
  refine lv_aload_n hx hb dX4_isRest_0 rfl (lv_at hl 0 rfl) ?_
  refine wr_get (C := RX4) (T := TX4) (N := 3) hx hb hts (in_X4_isRest_X4) hown hK hP (k := (156 + o)) (by omega) ((tX_NoteRow Z o ho) _ _ _) rfl 0 (by decide) (hts (.fieldLink RX4 9 "TuneSearch$NoteRow" "pitches" "[I") (by decide +kernel)) (fun _ h9 => h9) rfl dX4_isRest_1 ?_
  refine lv_iload_n hx hb dX4_isRest_4 rfl (lv_at hl 1 rfl) ?_
  obtain ⟨b1, h⟩ := gB_e h
  refine wr_iald hx hb hK hP (k := (2 * o)) (by omega) 0 ((tX_I Z (2 * o) (by omega)) _ _ _) rfl b1 dX4_isRest_5 ?_
  refine lv_iconst (v := (-1)) hx hb dX4_isRest_6 (by decide) ?_
  refine lv_icmp_ne (tgt := 14) hx hb dX4_isRest_7 (by decide) (fun q2 => ?_) (fun q2 => ?_)
  · have h := if_p h q2
    refine lv_iconst (v := 0) hx hb dX4_isRest_14 (by decide) ?_
    exact xr_zret hx hb hr hlocks hE hJ hK hP hS rfl h dX4_isRest_15
  · have h := if_n h (fun z => z q2)
    refine lv_iconst (v := 1) hx hb dX4_isRest_10 (by decide) ?_
    refine lv_goto (tgt := 15) hx hb dX4_isRest_11 (by decide) ?_
    exact xr_zret hx hb hr hlocks hE hJ hK hP hS rfl h dX4_isRest_15
def m_X4_isRest  (o : Nat) (σ : SG) (p0 : Int32) : Option (Int32 × SG) := m_X4_isRest_0  o σ p0
set_option maxHeartbeats 4000000 in
set_option maxRecDepth 100000 in
theorem k_X4_isRest (l : Launch) {E : EF} (Z : ZT)  (o : Nat) (ho : o < 9) (σ : SG) (p0 : Int32) {res : Int32 × SG} (h : m_X4_isRest  o σ p0 = some res) : Met l yX4_isRest wsX4_isRest rm_X4_isRest (va_Pc [.ref (za Z (156 + o)), .int p0] (wx E (zD Z) vwCl 211 (za Z) (tX Z) (tysX Z) σ)) (xQi E (zD Z) vwCl 211 (za Z) (tX Z) (tysX Z) res) 0 0 (ws_A 211 (za Z)) := by
  refine Met.ofW (cc := cX4_isRest) (maxL := 2) (ret := (some .boolean)) (by decide) rfl ?_
  intro p e s m args below meth c s₁ B hml hv
  obtain ⟨rfl, hE, hJ, hP, hK⟩ := hv
  have hl := lv_entry ([.ref (za Z (156 + o)), .int p0]) (n := 2) (Nat.le_of_ble_eq_true rfl)
  rw [lg_entry_eq]
  generalize (lg_sl ([.ref (za Z (156 + o)), .int p0]) ++ List.replicate (2 - (lg_sl ([.ref (za Z (156 + o)), .int p0])).length) Slot.unset).toArray = ls at hl ⊢
  exact kb_X4_isRest_0 Z  o ho ⟨B.exec, B.bytes, B.returns, B.notSynchronized, hml, findClass_of_methodNamed B.named, atoms_spec (ws := wsX4_isRest) B.pre, hE, hJ, hK⟩ σ p0 h s.heap [] hP va_S.rf ls hl
/-! java/util/Arrays.fill([II)V -/
abbrev rm_J7_fill_53178 : Room := { frames := 0, cells := 0, slots := 0, locals := 0 }
def m_J7_fill_53178_5_s  (r0 : Nat)  (c5 : SG → Int32 → Int32 → Int32 → Option (Unit × SG)) (σ : SG) (l1 : Int32) (l2 : Int32) (l3 : Int32) : Option (Unit × SG) :=
  if l3 ≤ l2 then (some ((), σ)) else (gB (inB l2 (lenX r0)) (lS (sI σ r0 l2.toNatClampNeg l1) (fun σ5 => lS (l2 + 1) (fun v7 => c5 σ5 l1 v7 l3))))
def m_J7_fill_53178_5  (r0 : Nat)  : Nat → SG → Int32 → Int32 → Int32 → Option (Unit × SG)
  | 0, _, _, _, _ => none
  | n + 1, σ, l1, l2, l3 => m_J7_fill_53178_5_s  r0  (m_J7_fill_53178_5  r0  n) σ l1 l2 l3
set_option maxHeartbeats 4000000 in
set_option maxRecDepth 100000 in
theorem kb_J7_fill_53178_5 {p : Program} {l : Launch} {e : Env} {s : State} {m : MethodId} {args : Array Value} {below : List Frame} {meth : Method} {c : Code} {E : EF} (Z : ZT)  (r0 : Nat) (hr0 : r0 < 143) (C : cy p s m args meth c cJ7_fill_53178 none 4 RJ7 wsJ7_fill_53178 E (zD Z) vwCl 211 (za Z) (tysX Z)) {res : Unit × SG}   : ∀ (n : Nat) (σ : SG) (l1 : Int32) (l2 : Int32) (l3 : Int32) , m_J7_fill_53178_5  r0  n σ l1 l2 l3 = some res → ∀ (H : Heap) (locs : List Loc), ws_P (zD Z) vwCl 211 (za Z) (tX Z) σ H → va_S (ws_A 211 (za Z)) s.heap H locs → ∀ (ls : Array Slot), lv_has ls 4 [(0, .ref (za Z r0)), (1, .int l1), (2, .int l2), (3, .int l3)] → W p l e rm_J7_fill_53178 s m args below meth c H locs 0 0 (MQ below (xQv E (zD Z) vwCl 211 (za Z) (tX Z) (tysX Z) res) args s 0 0 (ws_A 211 (za Z))) (F0 m 5 ls []) := by
  have C0 := C
  obtain ⟨hx, hb, hr, hlocks, hml, hown, hts, hE, hJ, hK⟩ := C0
  intro n
  induction n with
  | zero =>
    intro σ l1 l2 l3  h
    cases h
  | succ n ih =>
    intro σ l1 l2 l3  h H locs hP hS ls hl
    have hc5 : ∀ (σ : SG) (l1 : Int32) (l2 : Int32) (l3 : Int32) , m_J7_fill_53178_5  r0  n σ l1 l2 l3 = some res → ∀ (H : Heap) (locs : List Loc), ws_P (zD Z) vwCl 211 (za Z) (tX Z) σ H → va_S (ws_A 211 (za Z)) s.heap H locs → ∀ (ls : Array Slot), lv_has ls 4 [(0, .ref (za Z r0)), (1, .int l1), (2, .int l2), (3, .int l3)] → W p l e rm_J7_fill_53178 s m args below meth c H locs 0 0 (MQ below (xQv E (zD Z) vwCl 211 (za Z) (tX Z) (tysX Z) res) args s 0 0 (ws_A 211 (za Z))) (F0 m 5 ls []) := ih
    have h : m_J7_fill_53178_5_s  r0  (m_J7_fill_53178_5  r0  n) σ l1 l2 l3 = some res := h
    unfold m_J7_fill_53178_5_s at h
    refine lv_iload_n hx hb dJ7_fill_53178_5 rfl (lv_at hl 2 rfl) ?_
    refine lv_iload_n hx hb dJ7_fill_53178_6 rfl (lv_at hl 3 rfl) ?_
    refine lv_icmp_ge (tgt := 20) hx hb dJ7_fill_53178_7 (by decide) (fun q3 => ?_) (fun q3 => ?_)
    · have h := if_p h q3
      exact xr_vret hx hb hr hlocks hE hJ hK hP hS h dJ7_fill_53178_20
    · have h := if_n h q3
      refine lv_aload_n hx hb dJ7_fill_53178_10 rfl (lv_at hl 0 rfl) ?_
      refine lv_iload_n hx hb dJ7_fill_53178_11 rfl (lv_at hl 2 rfl) ?_
      refine lv_iload_n hx hb dJ7_fill_53178_12 rfl (lv_at hl 1 rfl) ?_
      obtain ⟨b4, h⟩ := gB_e h
      refine wr_iast hx hb hK hP hJ hS (k := r0) (by omega) 0 (tX_I Z r0 hr0) rfl b4 dJ7_fill_53178_13 (fun H locs hP hS => ?_)
      obtain ⟨σ5, e6, h⟩ := lS_e h
      rw [← e6] at hP
      obtain ⟨v7, e8, h⟩ := lS_e h
      refine lv_iinc (v := v7) (lv' := [(2, .int v7), (0, .ref (za Z r0)), (1, .int l1), (3, .int l3)]) hx hb dJ7_fill_53178_14 hl (k := 2) rfl (by rw [e8]; rfl) (by decide) rfl (fun ls hl => ?_)
      refine lv_goto (tgt := 5) hx hb dJ7_fill_53178_17 (by decide) ?_
      exact hc5 σ5 l1 v7 l3 h H locs hP hS ls (lv_sub hl [1, 2, 0, 3] rfl)
def m_J7_fill_53178_0  (r0 : Nat)  (σ : SG) (p1 : Int32) : Option (Unit × SG) :=
  lS (nI (lenX r0)) (fun v1 => m_J7_fill_53178_5  r0  FV σ p1 0 v1)
set_option maxHeartbeats 4000000 in
set_option maxRecDepth 100000 in
theorem kb_J7_fill_53178_0 {p : Program} {l : Launch} {e : Env} {s : State} {m : MethodId} {args : Array Value} {below : List Frame} {meth : Method} {c : Code} {E : EF} (Z : ZT)  (r0 : Nat) (hr0 : r0 < 143) (C : cy p s m args meth c cJ7_fill_53178 none 4 RJ7 wsJ7_fill_53178 E (zD Z) vwCl 211 (za Z) (tysX Z)) {res : Unit × SG}   : ∀ (σ : SG) (p1 : Int32) , m_J7_fill_53178_0  r0  σ p1 = some res → ∀ (H : Heap) (locs : List Loc), ws_P (zD Z) vwCl 211 (za Z) (tX Z) σ H → va_S (ws_A 211 (za Z)) s.heap H locs → ∀ (ls : Array Slot), lv_has ls 4 [(0, .ref (za Z r0)), (1, .int p1)] → W p l e rm_J7_fill_53178 s m args below meth c H locs 0 0 (MQ below (xQv E (zD Z) vwCl 211 (za Z) (tX Z) (tysX Z) res) args s 0 0 (ws_A 211 (za Z))) (F0 m 0 ls []) := by
  have C0 := C
  obtain ⟨hx, hb, hr, hlocks, hml, hown, hts, hE, hJ, hK⟩ := C0
  intro σ p1  h H locs hP hS ls hl
  unfold m_J7_fill_53178_0 at h
  refine lv_iconst (v := 0) hx hb dJ7_fill_53178_0 (by decide) ?_
  refine lv_istore_n (lv' := [(2, .int 0), (0, .ref (za Z r0)), (1, .int p1)]) hx hb dJ7_fill_53178_1 rfl hl (by decide) rfl (fun ls hl => ?_)
  refine lv_aload_n hx hb dJ7_fill_53178_2 rfl (lv_at hl 1 rfl) ?_
  refine wr_alen (v := nI (lenX r0)) hx hb hK hP (k := r0) (by omega) 0 ((tX_I Z r0 hr0) _ _ _) rfl rfl dJ7_fill_53178_3 ?_
  refine lv_topi (fun v1 e2 => ?_)
  have h := lS_u h e2
  refine lv_istore_n (lv' := [(3, .int v1), (2, .int 0), (0, .ref (za Z r0)), (1, .int p1)]) hx hb dJ7_fill_53178_4 rfl hl (by decide) rfl (fun ls hl => ?_)
  exact kb_J7_fill_53178_5 Z  r0 hr0 C   FV σ p1 0 v1 h H locs hP hS ls (lv_sub hl [2, 3, 1, 0] rfl)
def m_J7_fill_53178  (r0 : Nat) (σ : SG) (p1 : Int32) : Option (Unit × SG) := m_J7_fill_53178_0  r0 σ p1
set_option maxHeartbeats 4000000 in
set_option maxRecDepth 100000 in
theorem k_J7_fill_53178 (l : Launch) {E : EF} (Z : ZT)  (r0 : Nat) (hr0 : r0 < 143) (σ : SG) (p1 : Int32) {res : Unit × SG} (h : m_J7_fill_53178  r0 σ p1 = some res) : Met l yJ7_fill_53178 wsJ7_fill_53178 rm_J7_fill_53178 (va_Pc [.ref (za Z r0), .int p1] (wx E (zD Z) vwCl 211 (za Z) (tX Z) (tysX Z) σ)) (xQv E (zD Z) vwCl 211 (za Z) (tX Z) (tysX Z) res) 0 0 (ws_A 211 (za Z)) := by
  refine Met.ofW (cc := cJ7_fill_53178) (maxL := 4) (ret := none) (by decide) rfl ?_
  intro p e s m args below meth c s₁ B hml hv
  obtain ⟨rfl, hE, hJ, hP, hK⟩ := hv
  have hl := lv_entry ([.ref (za Z r0), .int p1]) (n := 4) (Nat.le_of_ble_eq_true rfl)
  rw [lg_entry_eq]
  generalize (lg_sl ([.ref (za Z r0), .int p1]) ++ List.replicate (4 - (lg_sl ([.ref (za Z r0), .int p1])).length) Slot.unset).toArray = ls at hl ⊢
  exact kb_J7_fill_53178_0 Z  r0 hr0 ⟨B.exec, B.bytes, B.returns, B.notSynchronized, hml, findClass_of_methodNamed B.named, atoms_spec (ws := wsJ7_fill_53178) B.pre, hE, hJ, hK⟩ σ p1 h s.heap [] hP va_S.rf ls hl
/-! TuneSearch$Finds.add(IIIII)V -/
abbrev rm_X1_add : Room := { frames := 0, cells := 0, slots := 0, locals := 0 }
theorem in_X1_add_X1 : ∀ w ∈ wsX10, w ∈ wsX1_add := by decide +kernel
def m_X1_add_127    (σ : SG) (l6 : Int32) : Option (Unit × SG) :=
  gB (inB l6 200) (lS (sI σ 27 l6.toNatClampNeg (σ.1 207 0)) (fun σ42 => lS (sI σ42 207 0 ((σ42.1 207 0) + 1)) (fun σ44 => some ((), σ44))))
set_option maxHeartbeats 4000000 in
set_option maxRecDepth 100000 in
theorem kb_X1_add_127 {p : Program} {l : Launch} {e : Env} {s : State} {m : MethodId} {args : Array Value} {below : List Frame} {meth : Method} {c : Code} {E : EF} (Z : ZT)    (C : cy p s m args meth c cX1_add none 7 RX1 wsX1_add E (zD Z) vwCl 211 (za Z) (tysX Z)) {res : Unit × SG}   : ∀ (σ : SG) (l6 : Int32) , m_X1_add_127    σ l6 = some res → ∀ (H : Heap) (locs : List Loc), ws_P (zD Z) vwCl 211 (za Z) (tX Z) σ H → va_S (ws_A 211 (za Z)) s.heap H locs → ∀ (ls : Array Slot), lv_has ls 7 [(0, .ref (za Z 207)), (6, .int l6)] → W p l e rm_X1_add s m args below meth c H locs 0 0 (MQ below (xQv E (zD Z) vwCl 211 (za Z) (tX Z) (tysX Z) res) args s 0 0 (ws_A 211 (za Z))) (F0 m 127 ls []) := by
  have C0 := C
  obtain ⟨hx, hb, hr, hlocks, hml, hown, hts, hE, hJ, hK⟩ := C0
  intro σ l6  h H locs hP hS ls hl
  unfold m_X1_add_127 at h
  refine lv_aload_n hx hb dX1_add_127 rfl (lv_at hl 0 rfl) ?_
  refine wr_get (C := RX1) (T := TX1) (N := 3) hx hb hts (in_X1_add_X1) hown hK hP (k := 207) (by decide) ((tX_Finds Z) _ _ _) rfl 2 (by decide) (hts (.fieldLink RX1 16 "TuneSearch$Finds" "order" "[I") (by decide +kernel)) (fun _ h9 => h9) rfl dX1_add_128 ?_
  refine lv_iload hx hb dX1_add_131 (lv_at hl 1 rfl) ?_
  refine lv_aload_n hx hb dX1_add_133 rfl (lv_at hl 0 rfl) ?_
  refine wr_get (C := RX1) (T := TX1) (N := 3) hx hb hts (in_X1_add_X1) hown hK hP (k := 207) (by decide) ((tX_Finds Z) _ _ _) rfl 0 (by decide) (hts (.fieldLink RX1 20 "TuneSearch$Finds" "count" "I") (by decide +kernel)) (fun _ h9 => h9) rfl dX1_add_134 ?_
  obtain ⟨b41, h⟩ := gB_e h
  refine wr_iast hx hb hK hP hJ hS (k := 27) (by decide) 0 (tX_I Z 27 (by decide)) rfl b41 dX1_add_137 (fun H locs hP hS => ?_)
  obtain ⟨σ42, e43, h⟩ := lS_e h
  rw [← e43] at hP
  refine lv_aload_n hx hb dX1_add_138 rfl (lv_at hl 0 rfl) ?_
  refine lv_dup hx hb dX1_add_139 rfl ?_
  refine wr_get (C := RX1) (T := TX1) (N := 3) hx hb hts (in_X1_add_X1) hown hK hP (k := 207) (by decide) ((tX_Finds Z) _ _ _) rfl 0 (by decide) (hts (.fieldLink RX1 20 "TuneSearch$Finds" "count" "I") (by decide +kernel)) (fun _ h9 => h9) rfl dX1_add_140 ?_
  refine lv_iconst (v := 1) hx hb dX1_add_143 (by decide) ?_
  refine lv_iadd hx hb dX1_add_144 ?_
  refine wr_put (C := RX1) (T := TX1) (N := 3) (σ' := sI σ42 207 0 ((σ42.1 207 0) + 1)) (ty := .int) hx hb hts (in_X1_add_X1) tyX1 tyX1_ok nmX1 hown hK hP hJ hS (k := 207) (by decide) ((tX_Finds Z) _ _ _) rfl 0 (by decide) (hts (.fieldLink RX1 20 "TuneSearch$Finds" "count" "I") (by decide +kernel)) (fun _ h9 => h9) rfl (by decide +kernel) rfl rfl (Nat.le_of_ble_eq_true rfl) (ws_pI (tX_Finds Z) rfl) dX1_add_145 (fun H locs hP hS => ?_)
  obtain ⟨σ44, e45, h⟩ := lS_e h
  rw [← e45] at hP
  exact xr_vret hx hb hr hlocks hE hJ hK hP hS h dX1_add_148
def m_X1_add_79_s    (c79 : SG → Int32 → Int32 → Option (Unit × SG)) (σ : SG) (l4 : Int32) (l6 : Int32) : Option (Unit × SG) :=
  if l6 ≤ 0 then (m_X1_add_127    σ l6) else (gB (inB 3 5) (gB (inB (l6 - 1) 200) (gB (inB (σ.1 27 (l6 - 1).toNatClampNeg) 200) (if (σ.1 (90 + (3 : Int32).toNatClampNeg) (σ.1 27 (l6 - 1).toNatClampNeg).toNatClampNeg) ≤ l4 then (m_X1_add_127    σ l6) else (gB (inB (l6 - 1) 200) (gB (inB l6 200) (lS (sI σ 27 l6.toNatClampNeg (σ.1 27 (l6 - 1).toNatClampNeg)) (fun σ37 => lS (l6 + (-1)) (fun v39 => c79 σ37 l4 v39)))))))))
def m_X1_add_79    : Nat → SG → Int32 → Int32 → Option (Unit × SG)
  | 0, _, _, _ => none
  | n + 1, σ, l4, l6 => m_X1_add_79_s    (m_X1_add_79    n) σ l4 l6
set_option maxHeartbeats 4000000 in
set_option maxRecDepth 100000 in
theorem kb_X1_add_79 {p : Program} {l : Launch} {e : Env} {s : State} {m : MethodId} {args : Array Value} {below : List Frame} {meth : Method} {c : Code} {E : EF} (Z : ZT)    (C : cy p s m args meth c cX1_add none 7 RX1 wsX1_add E (zD Z) vwCl 211 (za Z) (tysX Z)) {res : Unit × SG}   : ∀ (n : Nat) (σ : SG) (l4 : Int32) (l6 : Int32) , m_X1_add_79    n σ l4 l6 = some res → ∀ (H : Heap) (locs : List Loc), ws_P (zD Z) vwCl 211 (za Z) (tX Z) σ H → va_S (ws_A 211 (za Z)) s.heap H locs → ∀ (ls : Array Slot), lv_has ls 7 [(0, .ref (za Z 207)), (4, .int l4), (6, .int l6)] → W p l e rm_X1_add s m args below meth c H locs 0 0 (MQ below (xQv E (zD Z) vwCl 211 (za Z) (tX Z) (tysX Z) res) args s 0 0 (ws_A 211 (za Z))) (F0 m 79 ls []) := by
  have C0 := C
  obtain ⟨hx, hb, hr, hlocks, hml, hown, hts, hE, hJ, hK⟩ := C0
  intro n
  induction n with
  | zero =>
    intro σ l4 l6  h
    cases h
  | succ n ih =>
    intro σ l4 l6  h H locs hP hS ls hl
    have hc79 : ∀ (σ : SG) (l4 : Int32) (l6 : Int32) , m_X1_add_79    n σ l4 l6 = some res → ∀ (H : Heap) (locs : List Loc), ws_P (zD Z) vwCl 211 (za Z) (tX Z) σ H → va_S (ws_A 211 (za Z)) s.heap H locs → ∀ (ls : Array Slot), lv_has ls 7 [(0, .ref (za Z 207)), (4, .int l4), (6, .int l6)] → W p l e rm_X1_add s m args below meth c H locs 0 0 (MQ below (xQv E (zD Z) vwCl 211 (za Z) (tX Z) (tysX Z) res) args s 0 0 (ws_A 211 (za Z))) (F0 m 79 ls []) := ih
    have h : m_X1_add_79_s    (m_X1_add_79    n) σ l4 l6 = some res := h
    unfold m_X1_add_79_s at h
    refine lv_iload hx hb dX1_add_79 (lv_at hl 2 rfl) ?_
    refine lv_if_le (tgt := 127) hx hb dX1_add_81 (by decide) (fun q29 => ?_) (fun q29 => ?_)
    · have h := if_p h q29
      exact kb_X1_add_127 Z    C   σ l6 h H locs hP hS ls (lv_sub hl [0, 2] rfl)
    · have h := if_n h q29
      refine lv_aload_n hx hb dX1_add_84 rfl (lv_at hl 0 rfl) ?_
      refine wr_get (C := RX1) (T := TX1) (N := 3) hx hb hts (in_X1_add_X1) hown hK hP (k := 207) (by decide) ((tX_Finds Z) _ _ _) rfl 1 (by decide) (hts (.fieldLink RX1 13 "TuneSearch$Finds" "values" "[[I") (by decide +kernel)) (fun _ h9 => h9) rfl dX1_add_85 ?_
      refine lv_iconst (v := 3) hx hb dX1_add_88 (by decide) ?_
      obtain ⟨b30, h⟩ := gB_e h
      have hi31 := inB_lt b30
      refine wr_aald hx hb hK hP (k := 152) (by decide) 5 rfl ((tX_valuesO Z) _ _ _) rfl b30 (row_at hi31) dX1_add_89 ?_
      refine lv_aload_n hx hb dX1_add_90 rfl (lv_at hl 0 rfl) ?_
      refine wr_get (C := RX1) (T := TX1) (N := 3) hx hb hts (in_X1_add_X1) hown hK hP (k := 207) (by decide) ((tX_Finds Z) _ _ _) rfl 2 (by decide) (hts (.fieldLink RX1 16 "TuneSearch$Finds" "order" "[I") (by decide +kernel)) (fun _ h9 => h9) rfl dX1_add_91 ?_
      refine lv_iload hx hb dX1_add_94 (lv_at hl 2 rfl) ?_
      refine lv_iconst (v := 1) hx hb dX1_add_96 (by decide) ?_
      refine lv_isub hx hb dX1_add_97 ?_
      obtain ⟨b32, h⟩ := gB_e h
      refine wr_iald hx hb hK hP (k := 27) (by decide) 0 ((tX_I Z 27 (by decide)) _ _ _) rfl b32 dX1_add_98 ?_
      obtain ⟨b33, h⟩ := gB_e h
      refine wr_iald hx hb hK hP (k := (90 + (3 : Int32).toNatClampNeg)) (by omega) 0 ((tX_values Z (3 : Int32).toNatClampNeg hi31) _ _ _) rfl b33 dX1_add_99 ?_
      refine lv_iload hx hb dX1_add_100 (lv_at hl 1 rfl) ?_
      refine lv_icmp_le (tgt := 127) hx hb dX1_add_102 (by decide) (fun q34 => ?_) (fun q34 => ?_)
      · have h := if_p h q34
        exact kb_X1_add_127 Z    C   σ l6 h H locs hP hS ls (lv_sub hl [0, 2] rfl)
      · have h := if_n h q34
        refine lv_aload_n hx hb dX1_add_105 rfl (lv_at hl 0 rfl) ?_
        refine wr_get (C := RX1) (T := TX1) (N := 3) hx hb hts (in_X1_add_X1) hown hK hP (k := 207) (by decide) ((tX_Finds Z) _ _ _) rfl 2 (by decide) (hts (.fieldLink RX1 16 "TuneSearch$Finds" "order" "[I") (by decide +kernel)) (fun _ h9 => h9) rfl dX1_add_106 ?_
        refine lv_iload hx hb dX1_add_109 (lv_at hl 2 rfl) ?_
        refine lv_aload_n hx hb dX1_add_111 rfl (lv_at hl 0 rfl) ?_
        refine wr_get (C := RX1) (T := TX1) (N := 3) hx hb hts (in_X1_add_X1) hown hK hP (k := 207) (by decide) ((tX_Finds Z) _ _ _) rfl 2 (by decide) (hts (.fieldLink RX1 16 "TuneSearch$Finds" "order" "[I") (by decide +kernel)) (fun _ h9 => h9) rfl dX1_add_112 ?_
        refine lv_iload hx hb dX1_add_115 (lv_at hl 2 rfl) ?_
        refine lv_iconst (v := 1) hx hb dX1_add_117 (by decide) ?_
        refine lv_isub hx hb dX1_add_118 ?_
        obtain ⟨b35, h⟩ := gB_e h
        refine wr_iald hx hb hK hP (k := 27) (by decide) 0 ((tX_I Z 27 (by decide)) _ _ _) rfl b35 dX1_add_119 ?_
        obtain ⟨b36, h⟩ := gB_e h
        refine wr_iast hx hb hK hP hJ hS (k := 27) (by decide) 0 (tX_I Z 27 (by decide)) rfl b36 dX1_add_120 (fun H locs hP hS => ?_)
        obtain ⟨σ37, e38, h⟩ := lS_e h
        rw [← e38] at hP
        obtain ⟨v39, e40, h⟩ := lS_e h
        refine lv_iinc (v := v39) (lv' := [(6, .int v39), (0, .ref (za Z 207)), (4, .int l4)]) hx hb dX1_add_121 hl (k := 2) rfl (by rw [e40]; rfl) (by decide) rfl (fun ls hl => ?_)
        refine lv_goto (tgt := 79) hx hb dX1_add_124 (by decide) ?_
        exact hc79 σ37 l4 v39 h H locs hP hS ls (lv_sub hl [1, 2, 0] rfl)
def m_X1_add_0    (σ : SG) (p0 : Int32) (p1 : Int32) (p2 : Int32) (p3 : Int32) (p4 : Int32) : Option (Unit × SG) :=
  if (σ.1 207 0) < 200 then (gB (inB 0 5) (gB (inB (σ.1 207 0) 200) (lS (sI σ (90 + (0 : Int32).toNatClampNeg) (σ.1 207 0).toNatClampNeg p0) (fun σ5 => gB (inB 1 5) (gB (inB (σ5.1 207 0) 200) (lS (sI σ5 (90 + (1 : Int32).toNatClampNeg) (σ5.1 207 0).toNatClampNeg p1) (fun σ10 => gB (inB 2 5) (gB (inB (σ10.1 207 0) 200) (lS (sI σ10 (90 + (2 : Int32).toNatClampNeg) (σ10.1 207 0).toNatClampNeg p2) (fun σ15 => gB (inB 3 5) (gB (inB (σ15.1 207 0) 200) (lS (sI σ15 (90 + (3 : Int32).toNatClampNeg) (σ15.1 207 0).toNatClampNeg p3) (fun σ20 => gB (inB 4 5) (gB (inB (σ20.1 207 0) 200) (lS (sI σ20 (90 + (4 : Int32).toNatClampNeg) (σ20.1 207 0).toNatClampNeg p4) (fun σ25 => lS (σ25.1 207 0) (fun v27 => m_X1_add_79    FV σ25 p3 v27))))))))))))))))) else (some ((), σ))
set_option maxHeartbeats 4000000 in
set_option maxRecDepth 100000 in
theorem kb_X1_add_0 {p : Program} {l : Launch} {e : Env} {s : State} {m : MethodId} {args : Array Value} {below : List Frame} {meth : Method} {c : Code} {E : EF} (Z : ZT)    (C : cy p s m args meth c cX1_add none 7 RX1 wsX1_add E (zD Z) vwCl 211 (za Z) (tysX Z)) {res : Unit × SG}   : ∀ (σ : SG) (p0 : Int32) (p1 : Int32) (p2 : Int32) (p3 : Int32) (p4 : Int32) , m_X1_add_0    σ p0 p1 p2 p3 p4 = some res → ∀ (H : Heap) (locs : List Loc), ws_P (zD Z) vwCl 211 (za Z) (tX Z) σ H → va_S (ws_A 211 (za Z)) s.heap H locs → ∀ (ls : Array Slot), lv_has ls 7 [(0, .ref (za Z 207)), (1, .int p0), (2, .int p1), (3, .int p2), (4, .int p3), (5, .int p4)] → W p l e rm_X1_add s m args below meth c H locs 0 0 (MQ below (xQv E (zD Z) vwCl 211 (za Z) (tX Z) (tysX Z) res) args s 0 0 (ws_A 211 (za Z))) (F0 m 0 ls []) := by
  have C0 := C
  obtain ⟨hx, hb, hr, hlocks, hml, hown, hts, hE, hJ, hK⟩ := C0
  intro σ p0 p1 p2 p3 p4  h H locs hP hS ls hl
  unfold m_X1_add_0 at h
  refine lv_aload_n hx hb dX1_add_0 rfl (lv_at hl 0 rfl) ?_
  refine wr_get (C := RX1) (T := TX1) (N := 3) hx hb hts (in_X1_add_X1) hown hK hP (k := 207) (by decide) ((tX_Finds Z) _ _ _) rfl 0 (by decide) (hts (.fieldLink RX1 20 "TuneSearch$Finds" "count" "I") (by decide +kernel)) (fun _ h9 => h9) rfl dX1_add_1 ?_
  refine lv_sipush (v := 200) hx hb dX1_add_4 (by decide) ?_
  refine lv_icmp_lt (tgt := 11) hx hb dX1_add_7 (by decide) (fun q1 => ?_) (fun q1 => ?_)
  · have h := if_p h q1
    refine lv_aload_n hx hb dX1_add_11 rfl (lv_at hl 0 rfl) ?_
    refine wr_get (C := RX1) (T := TX1) (N := 3) hx hb hts (in_X1_add_X1) hown hK hP (k := 207) (by decide) ((tX_Finds Z) _ _ _) rfl 1 (by decide) (hts (.fieldLink RX1 13 "TuneSearch$Finds" "values" "[[I") (by decide +kernel)) (fun _ h9 => h9) rfl dX1_add_12 ?_
    refine lv_iconst (v := 0) hx hb dX1_add_15 (by decide) ?_
    obtain ⟨b2, h⟩ := gB_e h
    have hi3 := inB_lt b2
    refine wr_aald hx hb hK hP (k := 152) (by decide) 5 rfl ((tX_valuesO Z) _ _ _) rfl b2 (row_at hi3) dX1_add_16 ?_
    refine lv_aload_n hx hb dX1_add_17 rfl (lv_at hl 0 rfl) ?_
    refine wr_get (C := RX1) (T := TX1) (N := 3) hx hb hts (in_X1_add_X1) hown hK hP (k := 207) (by decide) ((tX_Finds Z) _ _ _) rfl 0 (by decide) (hts (.fieldLink RX1 20 "TuneSearch$Finds" "count" "I") (by decide +kernel)) (fun _ h9 => h9) rfl dX1_add_18 ?_
    refine lv_iload_n hx hb dX1_add_21 rfl (lv_at hl 1 rfl) ?_
    obtain ⟨b4, h⟩ := gB_e h
    refine wr_iast hx hb hK hP hJ hS (k := (90 + (0 : Int32).toNatClampNeg)) (by omega) 0 (tX_values Z (0 : Int32).toNatClampNeg hi3) rfl b4 dX1_add_22 (fun H locs hP hS => ?_)
    obtain ⟨σ5, e6, h⟩ := lS_e h
    rw [← e6] at hP
    refine lv_aload_n hx hb dX1_add_23 rfl (lv_at hl 0 rfl) ?_
    refine wr_get (C := RX1) (T := TX1) (N := 3) hx hb hts (in_X1_add_X1) hown hK hP (k := 207) (by decide) ((tX_Finds Z) _ _ _) rfl 1 (by decide) (hts (.fieldLink RX1 13 "TuneSearch$Finds" "values" "[[I") (by decide +kernel)) (fun _ h9 => h9) rfl dX1_add_24 ?_
    refine lv_iconst (v := 1) hx hb dX1_add_27 (by decide) ?_
    obtain ⟨b7, h⟩ := gB_e h
    have hi8 := inB_lt b7
    refine wr_aald hx hb hK hP (k := 152) (by decide) 5 rfl ((tX_valuesO Z) _ _ _) rfl b7 (row_at hi8) dX1_add_28 ?_
    refine lv_aload_n hx hb dX1_add_29 rfl (lv_at hl 0 rfl) ?_
    refine wr_get (C := RX1) (T := TX1) (N := 3) hx hb hts (in_X1_add_X1) hown hK hP (k := 207) (by decide) ((tX_Finds Z) _ _ _) rfl 0 (by decide) (hts (.fieldLink RX1 20 "TuneSearch$Finds" "count" "I") (by decide +kernel)) (fun _ h9 => h9) rfl dX1_add_30 ?_
    refine lv_iload_n hx hb dX1_add_33 rfl (lv_at hl 2 rfl) ?_
    obtain ⟨b9, h⟩ := gB_e h
    refine wr_iast hx hb hK hP hJ hS (k := (90 + (1 : Int32).toNatClampNeg)) (by omega) 0 (tX_values Z (1 : Int32).toNatClampNeg hi8) rfl b9 dX1_add_34 (fun H locs hP hS => ?_)
    obtain ⟨σ10, e11, h⟩ := lS_e h
    rw [← e11] at hP
    refine lv_aload_n hx hb dX1_add_35 rfl (lv_at hl 0 rfl) ?_
    refine wr_get (C := RX1) (T := TX1) (N := 3) hx hb hts (in_X1_add_X1) hown hK hP (k := 207) (by decide) ((tX_Finds Z) _ _ _) rfl 1 (by decide) (hts (.fieldLink RX1 13 "TuneSearch$Finds" "values" "[[I") (by decide +kernel)) (fun _ h9 => h9) rfl dX1_add_36 ?_
    refine lv_iconst (v := 2) hx hb dX1_add_39 (by decide) ?_
    obtain ⟨b12, h⟩ := gB_e h
    have hi13 := inB_lt b12
    refine wr_aald hx hb hK hP (k := 152) (by decide) 5 rfl ((tX_valuesO Z) _ _ _) rfl b12 (row_at hi13) dX1_add_40 ?_
    refine lv_aload_n hx hb dX1_add_41 rfl (lv_at hl 0 rfl) ?_
    refine wr_get (C := RX1) (T := TX1) (N := 3) hx hb hts (in_X1_add_X1) hown hK hP (k := 207) (by decide) ((tX_Finds Z) _ _ _) rfl 0 (by decide) (hts (.fieldLink RX1 20 "TuneSearch$Finds" "count" "I") (by decide +kernel)) (fun _ h9 => h9) rfl dX1_add_42 ?_
    refine lv_iload_n hx hb dX1_add_45 rfl (lv_at hl 3 rfl) ?_
    obtain ⟨b14, h⟩ := gB_e h
    refine wr_iast hx hb hK hP hJ hS (k := (90 + (2 : Int32).toNatClampNeg)) (by omega) 0 (tX_values Z (2 : Int32).toNatClampNeg hi13) rfl b14 dX1_add_46 (fun H locs hP hS => ?_)
    obtain ⟨σ15, e16, h⟩ := lS_e h
    rw [← e16] at hP
    refine lv_aload_n hx hb dX1_add_47 rfl (lv_at hl 0 rfl) ?_
    refine wr_get (C := RX1) (T := TX1) (N := 3) hx hb hts (in_X1_add_X1) hown hK hP (k := 207) (by decide) ((tX_Finds Z) _ _ _) rfl 1 (by decide) (hts (.fieldLink RX1 13 "TuneSearch$Finds" "values" "[[I") (by decide +kernel)) (fun _ h9 => h9) rfl dX1_add_48 ?_
    refine lv_iconst (v := 3) hx hb dX1_add_51 (by decide) ?_
    obtain ⟨b17, h⟩ := gB_e h
    have hi18 := inB_lt b17
    refine wr_aald hx hb hK hP (k := 152) (by decide) 5 rfl ((tX_valuesO Z) _ _ _) rfl b17 (row_at hi18) dX1_add_52 ?_
    refine lv_aload_n hx hb dX1_add_53 rfl (lv_at hl 0 rfl) ?_
    refine wr_get (C := RX1) (T := TX1) (N := 3) hx hb hts (in_X1_add_X1) hown hK hP (k := 207) (by decide) ((tX_Finds Z) _ _ _) rfl 0 (by decide) (hts (.fieldLink RX1 20 "TuneSearch$Finds" "count" "I") (by decide +kernel)) (fun _ h9 => h9) rfl dX1_add_54 ?_
    refine lv_iload hx hb dX1_add_57 (lv_at hl 4 rfl) ?_
    obtain ⟨b19, h⟩ := gB_e h
    refine wr_iast hx hb hK hP hJ hS (k := (90 + (3 : Int32).toNatClampNeg)) (by omega) 0 (tX_values Z (3 : Int32).toNatClampNeg hi18) rfl b19 dX1_add_59 (fun H locs hP hS => ?_)
    obtain ⟨σ20, e21, h⟩ := lS_e h
    rw [← e21] at hP
    refine lv_aload_n hx hb dX1_add_60 rfl (lv_at hl 0 rfl) ?_
    refine wr_get (C := RX1) (T := TX1) (N := 3) hx hb hts (in_X1_add_X1) hown hK hP (k := 207) (by decide) ((tX_Finds Z) _ _ _) rfl 1 (by decide) (hts (.fieldLink RX1 13 "TuneSearch$Finds" "values" "[[I") (by decide +kernel)) (fun _ h9 => h9) rfl dX1_add_61 ?_
    refine lv_iconst (v := 4) hx hb dX1_add_64 (by decide) ?_
    obtain ⟨b22, h⟩ := gB_e h
    have hi23 := inB_lt b22
    refine wr_aald hx hb hK hP (k := 152) (by decide) 5 rfl ((tX_valuesO Z) _ _ _) rfl b22 (row_at hi23) dX1_add_65 ?_
    refine lv_aload_n hx hb dX1_add_66 rfl (lv_at hl 0 rfl) ?_
    refine wr_get (C := RX1) (T := TX1) (N := 3) hx hb hts (in_X1_add_X1) hown hK hP (k := 207) (by decide) ((tX_Finds Z) _ _ _) rfl 0 (by decide) (hts (.fieldLink RX1 20 "TuneSearch$Finds" "count" "I") (by decide +kernel)) (fun _ h9 => h9) rfl dX1_add_67 ?_
    refine lv_iload hx hb dX1_add_70 (lv_at hl 5 rfl) ?_
    obtain ⟨b24, h⟩ := gB_e h
    refine wr_iast hx hb hK hP hJ hS (k := (90 + (4 : Int32).toNatClampNeg)) (by omega) 0 (tX_values Z (4 : Int32).toNatClampNeg hi23) rfl b24 dX1_add_72 (fun H locs hP hS => ?_)
    obtain ⟨σ25, e26, h⟩ := lS_e h
    rw [← e26] at hP
    refine lv_aload_n hx hb dX1_add_73 rfl (lv_at hl 0 rfl) ?_
    refine wr_get (C := RX1) (T := TX1) (N := 3) hx hb hts (in_X1_add_X1) hown hK hP (k := 207) (by decide) ((tX_Finds Z) _ _ _) rfl 0 (by decide) (hts (.fieldLink RX1 20 "TuneSearch$Finds" "count" "I") (by decide +kernel)) (fun _ h9 => h9) rfl dX1_add_74 ?_
    refine lv_topi (fun v27 e28 => ?_)
    have h := lS_u h e28
    refine lv_istore (lv' := [(6, .int v27), (0, .ref (za Z 207)), (1, .int p0), (2, .int p1), (3, .int p2), (4, .int p3), (5, .int p4)]) hx hb dX1_add_77 hl (by decide) rfl (fun ls hl => ?_)
    exact kb_X1_add_79 Z    C   FV σ25 p3 v27 h H locs hP hS ls (lv_sub hl [1, 5, 0] rfl)
  · have h := if_n h q1
    exact xr_vret hx hb hr hlocks hE hJ hK hP hS h dX1_add_10
def m_X1_add   (σ : SG) (p0 : Int32) (p1 : Int32) (p2 : Int32) (p3 : Int32) (p4 : Int32) : Option (Unit × SG) := m_X1_add_0   σ p0 p1 p2 p3 p4
set_option maxHeartbeats 4000000 in
set_option maxRecDepth 100000 in
theorem k_X1_add (l : Launch) {E : EF} (Z : ZT)    (σ : SG) (p0 : Int32) (p1 : Int32) (p2 : Int32) (p3 : Int32) (p4 : Int32) {res : Unit × SG} (h : m_X1_add   σ p0 p1 p2 p3 p4 = some res) : Met l yX1_add wsX1_add rm_X1_add (va_Pc [.ref (za Z 207), .int p0, .int p1, .int p2, .int p3, .int p4] (wx E (zD Z) vwCl 211 (za Z) (tX Z) (tysX Z) σ)) (xQv E (zD Z) vwCl 211 (za Z) (tX Z) (tysX Z) res) 0 0 (ws_A 211 (za Z)) := by
  refine Met.ofW (cc := cX1_add) (maxL := 7) (ret := none) (by decide) rfl ?_
  intro p e s m args below meth c s₁ B hml hv
  obtain ⟨rfl, hE, hJ, hP, hK⟩ := hv
  have hl := lv_entry ([.ref (za Z 207), .int p0, .int p1, .int p2, .int p3, .int p4]) (n := 7) (Nat.le_of_ble_eq_true rfl)
  rw [lg_entry_eq]
  generalize (lg_sl ([.ref (za Z 207), .int p0, .int p1, .int p2, .int p3, .int p4]) ++ List.replicate (7 - (lg_sl ([.ref (za Z 207), .int p0, .int p1, .int p2, .int p3, .int p4])).length) Slot.unset).toArray = ls at hl ⊢
  exact kb_X1_add_0 Z    ⟨B.exec, B.bytes, B.returns, B.notSynchronized, hml, findClass_of_methodNamed B.named, atoms_spec (ws := wsX1_add) B.pre, hE, hJ, hK⟩ σ p0 p1 p2 p3 p4 h s.heap [] hP va_S.rf ls hl
/-! TuneSearch$Finds.look(II)I -/
abbrev rm_X1_look : Room := { frames := 0, cells := 0, slots := 0, locals := 0 }
theorem in_X1_look_X1 : ∀ w ∈ wsX10, w ∈ wsX1_look := by decide +kernel
def m_X1_look_0    (σ : SG) (p0 : Int32) (p1 : Int32) : Option (Int32 × SG) :=
  gB (inB p1 5) (gB (inB p0 200) (gB (inB (σ.1 27 p0.toNatClampNeg) 200) (some (σ.1 (90 + p1.toNatClampNeg) (σ.1 27 p0.toNatClampNeg).toNatClampNeg, σ))))
set_option maxHeartbeats 4000000 in
set_option maxRecDepth 100000 in
theorem kb_X1_look_0 {p : Program} {l : Launch} {e : Env} {s : State} {m : MethodId} {args : Array Value} {below : List Frame} {meth : Method} {c : Code} {E : EF} (Z : ZT)    (C : cy p s m args meth c cX1_look (some .int) 3 RX1 wsX1_look E (zD Z) vwCl 211 (za Z) (tysX Z)) {res : Int32 × SG}   : ∀ (σ : SG) (p0 : Int32) (p1 : Int32) , m_X1_look_0    σ p0 p1 = some res → ∀ (H : Heap) (locs : List Loc), ws_P (zD Z) vwCl 211 (za Z) (tX Z) σ H → va_S (ws_A 211 (za Z)) s.heap H locs → ∀ (ls : Array Slot), lv_has ls 3 [(0, .ref (za Z 207)), (1, .int p0), (2, .int p1)] → W p l e rm_X1_look s m args below meth c H locs 0 0 (MQ below (xQi E (zD Z) vwCl 211 (za Z) (tX Z) (tysX Z) res) args s 0 0 (ws_A 211 (za Z))) (F0 m 0 ls []) := by
  have C0 := C
  obtain ⟨hx, hb, hr, hlocks, hml, hown, hts, hE, hJ, hK⟩ := C0
  intro σ p0 p1  h H locs hP hS ls hl
  unfold m_X1_look_0 at h
  refine lv_aload_n hx hb dX1_look_0 rfl (lv_at hl 0 rfl) ?_
  refine wr_get (C := RX1) (T := TX1) (N := 3) hx hb hts (in_X1_look_X1) hown hK hP (k := 207) (by decide) ((tX_Finds Z) _ _ _) rfl 1 (by decide) (hts (.fieldLink RX1 13 "TuneSearch$Finds" "values" "[[I") (by decide +kernel)) (fun _ h9 => h9) rfl dX1_look_1 ?_
  refine lv_iload_n hx hb dX1_look_4 rfl (lv_at hl 2 rfl) ?_
  obtain ⟨b1, h⟩ := gB_e h
  have hi2 := inB_lt b1
  refine wr_aald hx hb hK hP (k := 152) (by decide) 5 rfl ((tX_valuesO Z) _ _ _) rfl b1 (row_at hi2) dX1_look_5 ?_
  refine lv_aload_n hx hb dX1_look_6 rfl (lv_at hl 0 rfl) ?_
  refine wr_get (C := RX1) (T := TX1) (N := 3) hx hb hts (in_X1_look_X1) hown hK hP (k := 207) (by decide) ((tX_Finds Z) _ _ _) rfl 2 (by decide) (hts (.fieldLink RX1 16 "TuneSearch$Finds" "order" "[I") (by decide +kernel)) (fun _ h9 => h9) rfl dX1_look_7 ?_
  refine lv_iload_n hx hb dX1_look_10 rfl (lv_at hl 1 rfl) ?_
  obtain ⟨b3, h⟩ := gB_e h
  refine wr_iald hx hb hK hP (k := 27) (by decide) 0 ((tX_I Z 27 (by decide)) _ _ _) rfl b3 dX1_look_11 ?_
  obtain ⟨b4, h⟩ := gB_e h
  refine wr_iald hx hb hK hP (k := (90 + p1.toNatClampNeg)) (by omega) 0 ((tX_values Z p1.toNatClampNeg hi2) _ _ _) rfl b4 dX1_look_12 ?_
  exact xr_iret hx hb hr hlocks hE hJ hK hP hS h dX1_look_13
def m_X1_look   (σ : SG) (p0 : Int32) (p1 : Int32) : Option (Int32 × SG) := m_X1_look_0   σ p0 p1
set_option maxHeartbeats 4000000 in
set_option maxRecDepth 100000 in
theorem k_X1_look (l : Launch) {E : EF} (Z : ZT)    (σ : SG) (p0 : Int32) (p1 : Int32) {res : Int32 × SG} (h : m_X1_look   σ p0 p1 = some res) : Met l yX1_look wsX1_look rm_X1_look (va_Pc [.ref (za Z 207), .int p0, .int p1] (wx E (zD Z) vwCl 211 (za Z) (tX Z) (tysX Z) σ)) (xQi E (zD Z) vwCl 211 (za Z) (tX Z) (tysX Z) res) 0 0 (ws_A 211 (za Z)) := by
  refine Met.ofW (cc := cX1_look) (maxL := 3) (ret := (some .int)) (by decide) rfl ?_
  intro p e s m args below meth c s₁ B hml hv
  obtain ⟨rfl, hE, hJ, hP, hK⟩ := hv
  have hl := lv_entry ([.ref (za Z 207), .int p0, .int p1]) (n := 3) (Nat.le_of_ble_eq_true rfl)
  rw [lg_entry_eq]
  generalize (lg_sl ([.ref (za Z 207), .int p0, .int p1]) ++ List.replicate (3 - (lg_sl ([.ref (za Z 207), .int p0, .int p1])).length) Slot.unset).toArray = ls at hl ⊢
  exact kb_X1_look_0 Z    ⟨B.exec, B.bytes, B.returns, B.notSynchronized, hml, findClass_of_methodNamed B.named, atoms_spec (ws := wsX1_look) B.pre, hE, hJ, hK⟩ σ p0 p1 h s.heap [] hP va_S.rf ls hl
/-! TuneSearch$Part.become(ZJJ)V -/
abbrev rm_X5_become : Room := { frames := 0, cells := 0, slots := 0, locals := 0 }
theorem in_X5_become_X5 : ∀ w ∈ wsX50, w ∈ wsX5_become := by decide +kernel
def m_X5_become_0  (o : Nat)  (σ : SG) (p0 : Int32) (p1 : Int64) (p2 : Int64) : Option (Unit × SG) :=
  gB (isZ p0) (lS (sI σ (176 + o) 0 p0) (fun σ2 => lS (sJ σ2 (176 + o) 1 p1) (fun σ4 => lS (sJ σ4 (176 + o) 2 p2) (fun σ6 => some ((), σ6)))))
set_option maxHeartbeats 4000000 in
set_option maxRecDepth 100000 in
theorem kb_X5_become_0 {p : Program} {l : Launch} {e : Env} {s : State} {m : MethodId} {args : Array Value} {below : List Frame} {meth : Method} {c : Code} {E : EF} (Z : ZT)  (o : Nat) (ho : o < 27) (C : cy p s m args meth c cX5_become none 6 RX5 wsX5_become E (zD Z) vwCl 211 (za Z) (tysX Z)) {res : Unit × SG}   : ∀ (σ : SG) (p0 : Int32) (p1 : Int64) (p2 : Int64) , m_X5_become_0  o  σ p0 p1 p2 = some res → ∀ (H : Heap) (locs : List Loc), ws_P (zD Z) vwCl 211 (za Z) (tX Z) σ H → va_S (ws_A 211 (za Z)) s.heap H locs → ∀ (ls : Array Slot), lv_has ls 6 [(0, .ref (za Z (176 + o))), (1, .int p0), (2, .long p1), (4, .long p2)] → W p l e rm_X5_become s m args below meth c H locs 0 0 (MQ below (xQv E (zD Z) vwCl 211 (za Z) (tX Z) (tysX Z) res) args s 0 0 (ws_A 211 (za Z))) (F0 m 0 ls []) := by
  have C0 := C
  obtain ⟨hx, hb, hr, hlocks, hml, hown, hts, hE, hJ, hK⟩ := C0
  intro σ p0 p1 p2  h H locs hP hS ls hl
  unfold m_X5_become_0 at h
  refine lv_aload_n hx hb dX5_become_0 rfl (lv_at hl 0 rfl) ?_
  refine lv_iload_n hx hb dX5_become_1 rfl (lv_at hl 1 rfl) ?_
  obtain ⟨b1, h⟩ := gB_e h
  refine wr_put (C := RX5) (T := TX5) (N := 3) (σ' := sI σ (176 + o) 0 p0) (ty := .boolean) hx hb hts (in_X5_become_X5) tyX5 tyX5_ok nmX5 hown hK hP hJ hS (k := (176 + o)) (by omega) ((tX_Part Z o ho) _ _ _) rfl 0 (by decide) (hts (.fieldLink RX5 7 "TuneSearch$Part" "empty" "Z") (by decide +kernel)) (fun _ h9 => h9) rfl (by decide +kernel) (isZ_n b1) (isZ_f b1) (Nat.le_of_ble_eq_true rfl) (ws_pI (tX_Part Z o ho) rfl) dX5_become_2 (fun H locs hP hS => ?_)
  obtain ⟨σ2, e3, h⟩ := lS_e h
  rw [← e3] at hP
  refine lv_aload_n hx hb dX5_become_5 rfl (lv_at hl 0 rfl) ?_
  refine lv_lload_n hx hb dX5_become_6 rfl (lv_at hl 2 rfl) ?_
  refine wr_put (C := RX5) (T := TX5) (N := 3) (σ' := sJ σ2 (176 + o) 1 p1) (ty := .long) hx hb hts (in_X5_become_X5) tyX5 tyX5_ok nmX5 hown hK hP hJ hS (k := (176 + o)) (by omega) ((tX_Part Z o ho) _ _ _) rfl 1 (by decide) (hts (.fieldLink RX5 13 "TuneSearch$Part" "first" "J") (by decide +kernel)) (fun _ h9 => h9) rfl (by decide +kernel) rfl rfl (Nat.le_of_ble_eq_true rfl) (ws_pJ (tX_Part Z o ho) rfl) dX5_become_7 (fun H locs hP hS => ?_)
  obtain ⟨σ4, e5, h⟩ := lS_e h
  rw [← e5] at hP
  refine lv_aload_n hx hb dX5_become_10 rfl (lv_at hl 0 rfl) ?_
  refine lv_lload hx hb dX5_become_11 (lv_at hl 3 rfl) ?_
  refine wr_put (C := RX5) (T := TX5) (N := 3) (σ' := sJ σ4 (176 + o) 2 p2) (ty := .long) hx hb hts (in_X5_become_X5) tyX5 tyX5_ok nmX5 hown hK hP hJ hS (k := (176 + o)) (by omega) ((tX_Part Z o ho) _ _ _) rfl 2 (by decide) (hts (.fieldLink RX5 17 "TuneSearch$Part" "last" "J") (by decide +kernel)) (fun _ h9 => h9) rfl (by decide +kernel) rfl rfl (Nat.le_of_ble_eq_true rfl) (ws_pJ (tX_Part Z o ho) rfl) dX5_become_13 (fun H locs hP hS => ?_)
  obtain ⟨σ6, e7, h⟩ := lS_e h
  rw [← e7] at hP
  exact xr_vret hx hb hr hlocks hE hJ hK hP hS h dX5_become_16
def m_X5_become  (o : Nat) (σ : SG) (p0 : Int32) (p1 : Int64) (p2 : Int64) : Option (Unit × SG) := m_X5_become_0  o σ p0 p1 p2
set_option maxHeartbeats 4000000 in
set_option maxRecDepth 100000 in
theorem k_X5_become (l : Launch) {E : EF} (Z : ZT)  (o : Nat) (ho : o < 27) (σ : SG) (p0 : Int32) (p1 : Int64) (p2 : Int64) {res : Unit × SG} (h : m_X5_become  o σ p0 p1 p2 = some res) : Met l yX5_become wsX5_become rm_X5_become (va_Pc [.ref (za Z (176 + o)), .int p0, .long p1, .long p2] (wx E (zD Z) vwCl 211 (za Z) (tX Z) (tysX Z) σ)) (xQv E (zD Z) vwCl 211 (za Z) (tX Z) (tysX Z) res) 0 0 (ws_A 211 (za Z)) := by
  refine Met.ofW (cc := cX5_become) (maxL := 6) (ret := none) (by decide) rfl ?_
  intro p e s m args below meth c s₁ B hml hv
  obtain ⟨rfl, hE, hJ, hP, hK⟩ := hv
  have hl := lv_entry ([.ref (za Z (176 + o)), .int p0, .long p1, .long p2]) (n := 6) (Nat.le_of_ble_eq_true rfl)
  rw [lg_entry_eq]
  generalize (lg_sl ([.ref (za Z (176 + o)), .int p0, .long p1, .long p2]) ++ List.replicate (6 - (lg_sl ([.ref (za Z (176 + o)), .int p0, .long p1, .long p2])).length) Slot.unset).toArray = ls at hl ⊢
  exact kb_X5_become_0 Z  o ho ⟨B.exec, B.bytes, B.returns, B.notSynchronized, hml, findClass_of_methodNamed B.named, atoms_spec (ws := wsX5_become) B.pre, hE, hJ, hK⟩ σ p0 p1 p2 h s.heap [] hP va_S.rf ls hl
/-! TuneSearch$Word.link(JJ)V -/
abbrev rm_X9_link : Room := { frames := 0, cells := 0, slots := 0, locals := 0 }
theorem in_X9_link_X9 : ∀ w ∈ wsX90, w ∈ wsX9_link := by decide +kernel
def m_X9_link_34  (o : Nat) (c3 : SG → Int64 → Int64 → Int32 → Option (Unit × SG)) (σ : SG) (l1 : Int64) (l3 : Int64) (l5 : Int32) : Option (Unit × SG) :=
  lS (l5 + 1) (fun v7 => c3 σ l1 l3 v7)
set_option maxHeartbeats 4000000 in
set_option maxRecDepth 100000 in
theorem kb_X9_link_34 {p : Program} {l : Launch} {e : Env} {s : State} {m : MethodId} {args : Array Value} {below : List Frame} {meth : Method} {c : Code} {E : EF} (Z : ZT)  (o : Nat) (ho : o < 2) (C : cy p s m args meth c cX9_link none 6 RX9 wsX9_link E (zD Z) vwCl 211 (za Z) (tysX Z)) {res : Unit × SG} {c3 : SG → Int64 → Int64 → Int32 → Option (Unit × SG)} (hc3 : ∀ (σ : SG) (l1 : Int64) (l3 : Int64) (l5 : Int32) , c3 σ l1 l3 l5 = some res → ∀ (H : Heap) (locs : List Loc), ws_P (zD Z) vwCl 211 (za Z) (tX Z) σ H → va_S (ws_A 211 (za Z)) s.heap H locs → ∀ (ls : Array Slot), lv_has ls 6 [(0, .ref (za Z (203 + o))), (1, .long l1), (3, .long l3), (5, .int l5)] → W p l e rm_X9_link s m args below meth c H locs 0 0 (MQ below (xQv E (zD Z) vwCl 211 (za Z) (tX Z) (tysX Z) res) args s 0 0 (ws_A 211 (za Z))) (F0 m 3 ls [])) : ∀ (σ : SG) (l1 : Int64) (l3 : Int64) (l5 : Int32) , m_X9_link_34  o c3 σ l1 l3 l5 = some res → ∀ (H : Heap) (locs : List Loc), ws_P (zD Z) vwCl 211 (za Z) (tX Z) σ H → va_S (ws_A 211 (za Z)) s.heap H locs → ∀ (ls : Array Slot), lv_has ls 6 [(0, .ref (za Z (203 + o))), (1, .long l1), (3, .long l3), (5, .int l5)] → W p l e rm_X9_link s m args below meth c H locs 0 0 (MQ below (xQv E (zD Z) vwCl 211 (za Z) (tX Z) (tysX Z) res) args s 0 0 (ws_A 211 (za Z))) (F0 m 34 ls []) := by
  have C0 := C
  obtain ⟨hx, hb, hr, hlocks, hml, hown, hts, hE, hJ, hK⟩ := C0
  intro σ l1 l3 l5  h H locs hP hS ls hl
  unfold m_X9_link_34 at h
  obtain ⟨v7, e8, h⟩ := lS_e h
  refine lv_iinc (v := v7) (lv' := [(5, .int v7), (0, .ref (za Z (203 + o))), (1, .long l1), (3, .long l3)]) hx hb dX9_link_34 hl (k := 3) rfl (by rw [e8]; rfl) (by decide) rfl (fun ls hl => ?_)
  refine lv_goto (tgt := 3) hx hb dX9_link_37 (by decide) ?_
  exact hc3 σ l1 l3 v7 h H locs hP hS ls (lv_sub hl [1, 2, 3, 0] rfl)
def m_X9_link_3_s  (o : Nat)  (c3 : SG → Int64 → Int64 → Int32 → Option (Unit × SG)) (σ : SG) (l1 : Int64) (l3 : Int64) (l5 : Int32) : Option (Unit × SG) :=
  if (σ.1 (203 + o) 0) ≤ l5 then (some ((), σ)) else (if (lg_cmp (((l1.toUInt64 >>> (l5.toInt64.toUInt64 &&& Int64.toUInt64 63)).toInt64) &&& 1) 0) = 0 then (m_X9_link_34  o c3 σ l1 l3 l5) else (gB (inB l5 50) (gB (inB l5 50) (lS (sJ σ (144 + o) l5.toNatClampNeg ((σ.2.1 (144 + o) l5.toNatClampNeg) ||| l3)) (fun σ5 => m_X9_link_34  o c3 σ5 l1 l3 l5)))))
def m_X9_link_3  (o : Nat)  : Nat → SG → Int64 → Int64 → Int32 → Option (Unit × SG)
  | 0, _, _, _, _ => none
  | n + 1, σ, l1, l3, l5 => m_X9_link_3_s  o  (m_X9_link_3  o  n) σ l1 l3 l5
set_option maxHeartbeats 4000000 in
set_option maxRecDepth 100000 in
theorem kb_X9_link_3 {p : Program} {l : Launch} {e : Env} {s : State} {m : MethodId} {args : Array Value} {below : List Frame} {meth : Method} {c : Code} {E : EF} (Z : ZT)  (o : Nat) (ho : o < 2) (C : cy p s m args meth c cX9_link none 6 RX9 wsX9_link E (zD Z) vwCl 211 (za Z) (tysX Z)) {res : Unit × SG}   : ∀ (n : Nat) (σ : SG) (l1 : Int64) (l3 : Int64) (l5 : Int32) , m_X9_link_3  o  n σ l1 l3 l5 = some res → ∀ (H : Heap) (locs : List Loc), ws_P (zD Z) vwCl 211 (za Z) (tX Z) σ H → va_S (ws_A 211 (za Z)) s.heap H locs → ∀ (ls : Array Slot), lv_has ls 6 [(0, .ref (za Z (203 + o))), (1, .long l1), (3, .long l3), (5, .int l5)] → W p l e rm_X9_link s m args below meth c H locs 0 0 (MQ below (xQv E (zD Z) vwCl 211 (za Z) (tX Z) (tysX Z) res) args s 0 0 (ws_A 211 (za Z))) (F0 m 3 ls []) := by
  have C0 := C
  obtain ⟨hx, hb, hr, hlocks, hml, hown, hts, hE, hJ, hK⟩ := C0
  intro n
  induction n with
  | zero =>
    intro σ l1 l3 l5  h
    cases h
  | succ n ih =>
    intro σ l1 l3 l5  h H locs hP hS ls hl
    have hc3 : ∀ (σ : SG) (l1 : Int64) (l3 : Int64) (l5 : Int32) , m_X9_link_3  o  n σ l1 l3 l5 = some res → ∀ (H : Heap) (locs : List Loc), ws_P (zD Z) vwCl 211 (za Z) (tX Z) σ H → va_S (ws_A 211 (za Z)) s.heap H locs → ∀ (ls : Array Slot), lv_has ls 6 [(0, .ref (za Z (203 + o))), (1, .long l1), (3, .long l3), (5, .int l5)] → W p l e rm_X9_link s m args below meth c H locs 0 0 (MQ below (xQv E (zD Z) vwCl 211 (za Z) (tX Z) (tysX Z) res) args s 0 0 (ws_A 211 (za Z))) (F0 m 3 ls []) := ih
    have h : m_X9_link_3_s  o  (m_X9_link_3  o  n) σ l1 l3 l5 = some res := h
    unfold m_X9_link_3_s at h
    refine lv_iload hx hb dX9_link_3 (lv_at hl 3 rfl) ?_
    refine lv_aload_n hx hb dX9_link_5 rfl (lv_at hl 0 rfl) ?_
    refine wr_get (C := RX9) (T := TX9) (N := 8) hx hb hts (in_X9_link_X9) hown hK hP (k := (203 + o)) (by omega) ((tX_Word Z o ho) _ _ _) rfl 0 (by decide) (hts (.fieldLink RX9 25 "TuneSearch$Word" "atoms" "I") (by decide +kernel)) (fun _ h9 => h9) rfl dX9_link_6 ?_
    refine lv_icmp_ge (tgt := 40) hx hb dX9_link_9 (by decide) (fun q1 => ?_) (fun q1 => ?_)
    · have h := if_p h q1
      exact xr_vret hx hb hr hlocks hE hJ hK hP hS h dX9_link_40
    · have h := if_n h q1
      refine lv_lload_n hx hb dX9_link_12 rfl (lv_at hl 1 rfl) ?_
      refine lv_iload hx hb dX9_link_13 (lv_at hl 3 rfl) ?_
      refine lv_lushr hx hb dX9_link_15 rfl ?_
      refine lv_lconst (v := 1) hx hb dX9_link_16 (by decide) ?_
      refine lv_land hx hb dX9_link_17 ?_
      refine lv_lconst (v := 0) hx hb dX9_link_18 (by decide) ?_
      refine W.lcmp hx hb dX9_link_19 ?_
      refine lv_if_eq (tgt := 34) hx hb dX9_link_20 (by decide) (fun q2 => ?_) (fun q2 => ?_)
      · have h := if_p h q2
        exact kb_X9_link_34 Z  o ho C  hc3 σ l1 l3 l5 h H locs hP hS ls (lv_sub hl [0, 1, 2, 3] rfl)
      · have h := if_n h q2
        refine lv_aload_n hx hb dX9_link_23 rfl (lv_at hl 0 rfl) ?_
        refine wr_get (C := RX9) (T := TX9) (N := 8) hx hb hts (in_X9_link_X9) hown hK hP (k := (203 + o)) (by omega) ((tX_Word Z o ho) _ _ _) rfl 5 (by decide) (hts (.fieldLink RX9 18 "TuneSearch$Word" "follow" "[J") (by decide +kernel)) (fun _ h9 => h9) rfl dX9_link_24 ?_
        refine lv_iload hx hb dX9_link_27 (lv_at hl 3 rfl) ?_
        refine lv_dup2_11 hx hb dX9_link_29 rfl rfl ?_
        obtain ⟨b3, h⟩ := gB_e h
        refine wr_lald hx hb hK hP (k := (144 + o)) (by omega) 1 ((tX_follow Z o ho) _ _ _) rfl b3 dX9_link_30 ?_
        refine lv_lload_n hx hb dX9_link_31 rfl (lv_at hl 2 rfl) ?_
        refine lv_lor hx hb dX9_link_32 ?_
        obtain ⟨b4, h⟩ := gB_e h
        refine wr_last hx hb hK hP hJ hS (k := (144 + o)) (by omega) 1 (tX_follow Z o ho) rfl b4 dX9_link_33 (fun H locs hP hS => ?_)
        obtain ⟨σ5, e6, h⟩ := lS_e h
        rw [← e6] at hP
        exact kb_X9_link_34 Z  o ho C  hc3 σ5 l1 l3 l5 h H locs hP hS ls (lv_sub hl [0, 1, 2, 3] rfl)
def m_X9_link_0  (o : Nat)  (σ : SG) (p0 : Int64) (p1 : Int64) : Option (Unit × SG) :=
  m_X9_link_3  o  FV σ p0 p1 0
set_option maxHeartbeats 4000000 in
set_option maxRecDepth 100000 in
theorem kb_X9_link_0 {p : Program} {l : Launch} {e : Env} {s : State} {m : MethodId} {args : Array Value} {below : List Frame} {meth : Method} {c : Code} {E : EF} (Z : ZT)  (o : Nat) (ho : o < 2) (C : cy p s m args meth c cX9_link none 6 RX9 wsX9_link E (zD Z) vwCl 211 (za Z) (tysX Z)) {res : Unit × SG}   : ∀ (σ : SG) (p0 : Int64) (p1 : Int64) , m_X9_link_0  o  σ p0 p1 = some res → ∀ (H : Heap) (locs : List Loc), ws_P (zD Z) vwCl 211 (za Z) (tX Z) σ H → va_S (ws_A 211 (za Z)) s.heap H locs → ∀ (ls : Array Slot), lv_has ls 6 [(0, .ref (za Z (203 + o))), (1, .long p0), (3, .long p1)] → W p l e rm_X9_link s m args below meth c H locs 0 0 (MQ below (xQv E (zD Z) vwCl 211 (za Z) (tX Z) (tysX Z) res) args s 0 0 (ws_A 211 (za Z))) (F0 m 0 ls []) := by
  have C0 := C
  obtain ⟨hx, hb, hr, hlocks, hml, hown, hts, hE, hJ, hK⟩ := C0
  intro σ p0 p1  h H locs hP hS ls hl
  unfold m_X9_link_0 at h
  refine lv_iconst (v := 0) hx hb dX9_link_0 (by decide) ?_
  refine lv_istore (lv' := [(5, .int 0), (0, .ref (za Z (203 + o))), (1, .long p0), (3, .long p1)]) hx hb dX9_link_1 hl (by decide) rfl (fun ls hl => ?_)
  exact kb_X9_link_3 Z  o ho C   FV σ p0 p1 0 h H locs hP hS ls (lv_sub hl [1, 2, 3, 0] rfl)
def m_X9_link  (o : Nat) (σ : SG) (p0 : Int64) (p1 : Int64) : Option (Unit × SG) := m_X9_link_0  o σ p0 p1
set_option maxHeartbeats 4000000 in
set_option maxRecDepth 100000 in
theorem k_X9_link (l : Launch) {E : EF} (Z : ZT)  (o : Nat) (ho : o < 2) (σ : SG) (p0 : Int64) (p1 : Int64) {res : Unit × SG} (h : m_X9_link  o σ p0 p1 = some res) : Met l yX9_link wsX9_link rm_X9_link (va_Pc [.ref (za Z (203 + o)), .long p0, .long p1] (wx E (zD Z) vwCl 211 (za Z) (tX Z) (tysX Z) σ)) (xQv E (zD Z) vwCl 211 (za Z) (tX Z) (tysX Z) res) 0 0 (ws_A 211 (za Z)) := by
  refine Met.ofW (cc := cX9_link) (maxL := 6) (ret := none) (by decide) rfl ?_
  intro p e s m args below meth c s₁ B hml hv
  obtain ⟨rfl, hE, hJ, hP, hK⟩ := hv
  have hl := lv_entry ([.ref (za Z (203 + o)), .long p0, .long p1]) (n := 6) (Nat.le_of_ble_eq_true rfl)
  rw [lg_entry_eq]
  generalize (lg_sl ([.ref (za Z (203 + o)), .long p0, .long p1]) ++ List.replicate (6 - (lg_sl ([.ref (za Z (203 + o)), .long p0, .long p1])).length) Slot.unset).toArray = ls at hl ⊢
  exact kb_X9_link_0 Z  o ho ⟨B.exec, B.bytes, B.returns, B.notSynchronized, hml, findClass_of_methodNamed B.named, atoms_spec (ws := wsX9_link) B.pre, hE, hJ, hK⟩ σ p0 p1 h s.heap [] hP va_S.rf ls hl
/-! TuneSearch$Part.addBehind(LTuneSearch$Part;)V -/
abbrev rm_X5_addBehind : Room := { frames := 0, cells := 0, slots := 0, locals := 0 }
theorem in_X5_addBehind_X5 : ∀ w ∈ wsX50, w ∈ wsX5_addBehind := by decide +kernel
def m_X5_addBehind_51  (o : Nat) (r0 : Nat)  (σ : SG) (s0 : Int64) : Option (Unit × SG) :=
  lS (sJ σ (176 + o) 2 s0) (fun σ5 => if (σ5.1 (176 + o) 0) = 0 then (lS (sI σ5 (176 + o) 0 0) (fun σ8 => some ((), σ8))) else (if (σ5.1 (176 + r0) 0) = 0 then (lS (sI σ5 (176 + o) 0 0) (fun σ11 => some ((), σ11))) else (lS (sI σ5 (176 + o) 0 1) (fun σ13 => some ((), σ13)))))
set_option maxHeartbeats 4000000 in
set_option maxRecDepth 100000 in
theorem kb_X5_addBehind_51 {p : Program} {l : Launch} {e : Env} {s : State} {m : MethodId} {args : Array Value} {below : List Frame} {meth : Method} {c : Code} {E : EF} (Z : ZT)  (o : Nat) (r0 : Nat) (ho : o < 27) (hr0 : r0 < 27) (C : cy p s m args meth c cX5_addBehind none 2 RX5 wsX5_addBehind E (zD Z) vwCl 211 (za Z) (tysX Z)) {res : Unit × SG}   : ∀ (σ : SG) (s0 : Int64) , m_X5_addBehind_51  o r0  σ s0 = some res → ∀ (H : Heap) (locs : List Loc), ws_P (zD Z) vwCl 211 (za Z) (tX Z) σ H → va_S (ws_A 211 (za Z)) s.heap H locs → ∀ (ls : Array Slot), lv_has ls 2 [(0, .ref (za Z (176 + o))), (1, .ref (za Z (176 + r0)))] → W p l e rm_X5_addBehind s m args below meth c H locs 0 0 (MQ below (xQv E (zD Z) vwCl 211 (za Z) (tX Z) (tysX Z) res) args s 0 0 (ws_A 211 (za Z))) (F0 m 51 ls [.long s0, .ref (za Z (176 + o))]) := by
  have C0 := C
  obtain ⟨hx, hb, hr, hlocks, hml, hown, hts, hE, hJ, hK⟩ := C0
  intro σ s0  h H locs hP hS ls hl
  unfold m_X5_addBehind_51 at h
  refine wr_put (C := RX5) (T := TX5) (N := 3) (σ' := sJ σ (176 + o) 2 s0) (ty := .long) hx hb hts (in_X5_addBehind_X5) tyX5 tyX5_ok nmX5 hown hK hP hJ hS (k := (176 + o)) (by omega) ((tX_Part Z o ho) _ _ _) rfl 2 (by decide) (hts (.fieldLink RX5 17 "TuneSearch$Part" "last" "J") (by decide +kernel)) (fun _ h9 => h9) rfl (by decide +kernel) rfl rfl (Nat.le_of_ble_eq_true rfl) (ws_pJ (tX_Part Z o ho) rfl) dX5_addBehind_51 (fun H locs hP hS => ?_)
  obtain ⟨σ5, e6, h⟩ := lS_e h
  rw [← e6] at hP
  refine lv_aload_n hx hb dX5_addBehind_54 rfl (lv_at hl 0 rfl) ?_
  refine lv_aload_n hx hb dX5_addBehind_55 rfl (lv_at hl 0 rfl) ?_
  refine wr_get (C := RX5) (T := TX5) (N := 3) hx hb hts (in_X5_addBehind_X5) hown hK hP (k := (176 + o)) (by omega) ((tX_Part Z o ho) _ _ _) rfl 0 (by decide) (hts (.fieldLink RX5 7 "TuneSearch$Part" "empty" "Z") (by decide +kernel)) (fun _ h9 => h9) rfl dX5_addBehind_56 ?_
  refine lv_if_eq (tgt := 73) hx hb dX5_addBehind_59 (by decide) (fun q7 => ?_) (fun q7 => ?_)
  · have h := if_p h q7
    refine lv_iconst (v := 0) hx hb dX5_addBehind_73 (by decide) ?_
    refine wr_put (C := RX5) (T := TX5) (N := 3) (σ' := sI σ5 (176 + o) 0 0) (ty := .boolean) hx hb hts (in_X5_addBehind_X5) tyX5 tyX5_ok nmX5 hown hK hP hJ hS (k := (176 + o)) (by omega) ((tX_Part Z o ho) _ _ _) rfl 0 (by decide) (hts (.fieldLink RX5 7 "TuneSearch$Part" "empty" "Z") (by decide +kernel)) (fun _ h9 => h9) rfl (by decide +kernel) rfl rfl (Nat.le_of_ble_eq_true rfl) (ws_pI (tX_Part Z o ho) rfl) dX5_addBehind_74 (fun H locs hP hS => ?_)
    obtain ⟨σ8, e9, h⟩ := lS_e h
    rw [← e9] at hP
    exact xr_vret hx hb hr hlocks hE hJ hK hP hS h dX5_addBehind_77
  · have h := if_n h q7
    refine lv_aload_n hx hb dX5_addBehind_62 rfl (lv_at hl 1 rfl) ?_
    refine wr_get (C := RX5) (T := TX5) (N := 3) hx hb hts (in_X5_addBehind_X5) hown hK hP (k := (176 + r0)) (by omega) ((tX_Part Z r0 hr0) _ _ _) rfl 0 (by decide) (hts (.fieldLink RX5 7 "TuneSearch$Part" "empty" "Z") (by decide +kernel)) (fun _ h9 => h9) rfl dX5_addBehind_63 ?_
    refine lv_if_eq (tgt := 73) hx hb dX5_addBehind_66 (by decide) (fun q10 => ?_) (fun q10 => ?_)
    · have h := if_p h q10
      refine lv_iconst (v := 0) hx hb dX5_addBehind_73 (by decide) ?_
      refine wr_put (C := RX5) (T := TX5) (N := 3) (σ' := sI σ5 (176 + o) 0 0) (ty := .boolean) hx hb hts (in_X5_addBehind_X5) tyX5 tyX5_ok nmX5 hown hK hP hJ hS (k := (176 + o)) (by omega) ((tX_Part Z o ho) _ _ _) rfl 0 (by decide) (hts (.fieldLink RX5 7 "TuneSearch$Part" "empty" "Z") (by decide +kernel)) (fun _ h9 => h9) rfl (by decide +kernel) rfl rfl (Nat.le_of_ble_eq_true rfl) (ws_pI (tX_Part Z o ho) rfl) dX5_addBehind_74 (fun H locs hP hS => ?_)
      obtain ⟨σ11, e12, h⟩ := lS_e h
      rw [← e12] at hP
      exact xr_vret hx hb hr hlocks hE hJ hK hP hS h dX5_addBehind_77
    · have h := if_n h q10
      refine lv_iconst (v := 1) hx hb dX5_addBehind_69 (by decide) ?_
      refine lv_goto (tgt := 74) hx hb dX5_addBehind_70 (by decide) ?_
      refine wr_put (C := RX5) (T := TX5) (N := 3) (σ' := sI σ5 (176 + o) 0 1) (ty := .boolean) hx hb hts (in_X5_addBehind_X5) tyX5 tyX5_ok nmX5 hown hK hP hJ hS (k := (176 + o)) (by omega) ((tX_Part Z o ho) _ _ _) rfl 0 (by decide) (hts (.fieldLink RX5 7 "TuneSearch$Part" "empty" "Z") (by decide +kernel)) (fun _ h9 => h9) rfl (by decide +kernel) rfl rfl (Nat.le_of_ble_eq_true rfl) (ws_pI (tX_Part Z o ho) rfl) dX5_addBehind_74 (fun H locs hP hS => ?_)
      obtain ⟨σ13, e14, h⟩ := lS_e h
      rw [← e14] at hP
      exact xr_vret hx hb hr hlocks hE hJ hK hP hS h dX5_addBehind_77
def m_X5_addBehind_24  (o : Nat) (r0 : Nat)  (σ : SG) (s0 : Int64) : Option (Unit × SG) :=
  lS (sJ σ (176 + o) 1 s0) (fun σ2 => if (σ2.1 (176 + r0) 0) = 0 then (m_X5_addBehind_51  o r0  σ2 (σ2.2.1 (176 + r0) 2)) else (m_X5_addBehind_51  o r0  σ2 ((σ2.2.1 (176 + o) 2) ||| (σ2.2.1 (176 + r0) 2))))
set_option maxHeartbeats 4000000 in
set_option maxRecDepth 100000 in
theorem kb_X5_addBehind_24 {p : Program} {l : Launch} {e : Env} {s : State} {m : MethodId} {args : Array Value} {below : List Frame} {meth : Method} {c : Code} {E : EF} (Z : ZT)  (o : Nat) (r0 : Nat) (ho : o < 27) (hr0 : r0 < 27) (C : cy p s m args meth c cX5_addBehind none 2 RX5 wsX5_addBehind E (zD Z) vwCl 211 (za Z) (tysX Z)) {res : Unit × SG}   : ∀ (σ : SG) (s0 : Int64) , m_X5_addBehind_24  o r0  σ s0 = some res → ∀ (H : Heap) (locs : List Loc), ws_P (zD Z) vwCl 211 (za Z) (tX Z) σ H → va_S (ws_A 211 (za Z)) s.heap H locs → ∀ (ls : Array Slot), lv_has ls 2 [(0, .ref (za Z (176 + o))), (1, .ref (za Z (176 + r0)))] → W p l e rm_X5_addBehind s m args below meth c H locs 0 0 (MQ below (xQv E (zD Z) vwCl 211 (za Z) (tX Z) (tysX Z) res) args s 0 0 (ws_A 211 (za Z))) (F0 m 24 ls [.long s0, .ref (za Z (176 + o))]) := by
  have C0 := C
  obtain ⟨hx, hb, hr, hlocks, hml, hown, hts, hE, hJ, hK⟩ := C0
  intro σ s0  h H locs hP hS ls hl
  unfold m_X5_addBehind_24 at h
  refine wr_put (C := RX5) (T := TX5) (N := 3) (σ' := sJ σ (176 + o) 1 s0) (ty := .long) hx hb hts (in_X5_addBehind_X5) tyX5 tyX5_ok nmX5 hown hK hP hJ hS (k := (176 + o)) (by omega) ((tX_Part Z o ho) _ _ _) rfl 1 (by decide) (hts (.fieldLink RX5 13 "TuneSearch$Part" "first" "J") (by decide +kernel)) (fun _ h9 => h9) rfl (by decide +kernel) rfl rfl (Nat.le_of_ble_eq_true rfl) (ws_pJ (tX_Part Z o ho) rfl) dX5_addBehind_24 (fun H locs hP hS => ?_)
  obtain ⟨σ2, e3, h⟩ := lS_e h
  rw [← e3] at hP
  refine lv_aload_n hx hb dX5_addBehind_27 rfl (lv_at hl 0 rfl) ?_
  refine lv_aload_n hx hb dX5_addBehind_28 rfl (lv_at hl 1 rfl) ?_
  refine wr_get (C := RX5) (T := TX5) (N := 3) hx hb hts (in_X5_addBehind_X5) hown hK hP (k := (176 + r0)) (by omega) ((tX_Part Z r0 hr0) _ _ _) rfl 0 (by decide) (hts (.fieldLink RX5 7 "TuneSearch$Part" "empty" "Z") (by decide +kernel)) (fun _ h9 => h9) rfl dX5_addBehind_29 ?_
  refine lv_if_eq (tgt := 47) hx hb dX5_addBehind_32 (by decide) (fun q4 => ?_) (fun q4 => ?_)
  · have h := if_p h q4
    refine lv_aload_n hx hb dX5_addBehind_47 rfl (lv_at hl 1 rfl) ?_
    refine wr_get (C := RX5) (T := TX5) (N := 3) hx hb hts (in_X5_addBehind_X5) hown hK hP (k := (176 + r0)) (by omega) ((tX_Part Z r0 hr0) _ _ _) rfl 2 (by decide) (hts (.fieldLink RX5 17 "TuneSearch$Part" "last" "J") (by decide +kernel)) (fun _ h9 => h9) rfl dX5_addBehind_48 ?_
    exact kb_X5_addBehind_51 Z  o r0 ho hr0 C   σ2 (σ2.2.1 (176 + r0) 2) h H locs hP hS ls (lv_sub hl [0, 1] rfl)
  · have h := if_n h q4
    refine lv_aload_n hx hb dX5_addBehind_35 rfl (lv_at hl 0 rfl) ?_
    refine wr_get (C := RX5) (T := TX5) (N := 3) hx hb hts (in_X5_addBehind_X5) hown hK hP (k := (176 + o)) (by omega) ((tX_Part Z o ho) _ _ _) rfl 2 (by decide) (hts (.fieldLink RX5 17 "TuneSearch$Part" "last" "J") (by decide +kernel)) (fun _ h9 => h9) rfl dX5_addBehind_36 ?_
    refine lv_aload_n hx hb dX5_addBehind_39 rfl (lv_at hl 1 rfl) ?_
    refine wr_get (C := RX5) (T := TX5) (N := 3) hx hb hts (in_X5_addBehind_X5) hown hK hP (k := (176 + r0)) (by omega) ((tX_Part Z r0 hr0) _ _ _) rfl 2 (by decide) (hts (.fieldLink RX5 17 "TuneSearch$Part" "last" "J") (by decide +kernel)) (fun _ h9 => h9) rfl dX5_addBehind_40 ?_
    refine lv_lor hx hb dX5_addBehind_43 ?_
    refine lv_goto (tgt := 51) hx hb dX5_addBehind_44 (by decide) ?_
    exact kb_X5_addBehind_51 Z  o r0 ho hr0 C   σ2 ((σ2.2.1 (176 + o) 2) ||| (σ2.2.1 (176 + r0) 2)) h H locs hP hS ls (lv_sub hl [0, 1] rfl)
def m_X5_addBehind_0  (o : Nat) (r0 : Nat)  (σ : SG)  : Option (Unit × SG) :=
  if (σ.1 (176 + o) 0) = 0 then (m_X5_addBehind_24  o r0  σ (σ.2.1 (176 + o) 1)) else (m_X5_addBehind_24  o r0  σ ((σ.2.1 (176 + o) 1) ||| (σ.2.1 (176 + r0) 1)))
set_option maxHeartbeats 4000000 in
set_option maxRecDepth 100000 in
theorem kb_X5_addBehind_0 {p : Program} {l : Launch} {e : Env} {s : State} {m : MethodId} {args : Array Value} {below : List Frame} {meth : Method} {c : Code} {E : EF} (Z : ZT)  (o : Nat) (r0 : Nat) (ho : o < 27) (hr0 : r0 < 27) (C : cy p s m args meth c cX5_addBehind none 2 RX5 wsX5_addBehind E (zD Z) vwCl 211 (za Z) (tysX Z)) {res : Unit × SG}   : ∀ (σ : SG)  , m_X5_addBehind_0  o r0  σ  = some res → ∀ (H : Heap) (locs : List Loc), ws_P (zD Z) vwCl 211 (za Z) (tX Z) σ H → va_S (ws_A 211 (za Z)) s.heap H locs → ∀ (ls : Array Slot), lv_has ls 2 [(0, .ref (za Z (176 + o))), (1, .ref (za Z (176 + r0)))] → W p l e rm_X5_addBehind s m args below meth c H locs 0 0 (MQ below (xQv E (zD Z) vwCl 211 (za Z) (tX Z) (tysX Z) res) args s 0 0 (ws_A 211 (za Z))) (F0 m 0 ls []) := by
  have C0 := C
  obtain ⟨hx, hb, hr, hlocks, hml, hown, hts, hE, hJ, hK⟩ := C0
  intro σ   h H locs hP hS ls hl
  unfold m_X5_addBehind_0 at h
  refine lv_aload_n hx hb dX5_addBehind_0 rfl (lv_at hl 0 rfl) ?_
  refine lv_aload_n hx hb dX5_addBehind_1 rfl (lv_at hl 0 rfl) ?_
  refine wr_get (C := RX5) (T := TX5) (N := 3) hx hb hts (in_X5_addBehind_X5) hown hK hP (k := (176 + o)) (by omega) ((tX_Part Z o ho) _ _ _) rfl 0 (by decide) (hts (.fieldLink RX5 7 "TuneSearch$Part" "empty" "Z") (by decide +kernel)) (fun _ h9 => h9) rfl dX5_addBehind_2 ?_
  refine lv_if_eq (tgt := 20) hx hb dX5_addBehind_5 (by decide) (fun q1 => ?_) (fun q1 => ?_)
  · have h := if_p h q1
    refine lv_aload_n hx hb dX5_addBehind_20 rfl (lv_at hl 0 rfl) ?_
    refine wr_get (C := RX5) (T := TX5) (N := 3) hx hb hts (in_X5_addBehind_X5) hown hK hP (k := (176 + o)) (by omega) ((tX_Part Z o ho) _ _ _) rfl 1 (by decide) (hts (.fieldLink RX5 13 "TuneSearch$Part" "first" "J") (by decide +kernel)) (fun _ h9 => h9) rfl dX5_addBehind_21 ?_
    exact kb_X5_addBehind_24 Z  o r0 ho hr0 C   σ (σ.2.1 (176 + o) 1) h H locs hP hS ls (lv_sub hl [0, 1] rfl)
  · have h := if_n h q1
    refine lv_aload_n hx hb dX5_addBehind_8 rfl (lv_at hl 0 rfl) ?_
    refine wr_get (C := RX5) (T := TX5) (N := 3) hx hb hts (in_X5_addBehind_X5) hown hK hP (k := (176 + o)) (by omega) ((tX_Part Z o ho) _ _ _) rfl 1 (by decide) (hts (.fieldLink RX5 13 "TuneSearch$Part" "first" "J") (by decide +kernel)) (fun _ h9 => h9) rfl dX5_addBehind_9 ?_
    refine lv_aload_n hx hb dX5_addBehind_12 rfl (lv_at hl 1 rfl) ?_
    refine wr_get (C := RX5) (T := TX5) (N := 3) hx hb hts (in_X5_addBehind_X5) hown hK hP (k := (176 + r0)) (by omega) ((tX_Part Z r0 hr0) _ _ _) rfl 1 (by decide) (hts (.fieldLink RX5 13 "TuneSearch$Part" "first" "J") (by decide +kernel)) (fun _ h9 => h9) rfl dX5_addBehind_13 ?_
    refine lv_lor hx hb dX5_addBehind_16 ?_
    refine lv_goto (tgt := 24) hx hb dX5_addBehind_17 (by decide) ?_
    exact kb_X5_addBehind_24 Z  o r0 ho hr0 C   σ ((σ.2.1 (176 + o) 1) ||| (σ.2.1 (176 + r0) 1)) h H locs hP hS ls (lv_sub hl [0, 1] rfl)
def m_X5_addBehind  (o : Nat) (r0 : Nat) (σ : SG)  : Option (Unit × SG) := m_X5_addBehind_0  o r0 σ 
set_option maxHeartbeats 4000000 in
set_option maxRecDepth 100000 in
theorem k_X5_addBehind (l : Launch) {E : EF} (Z : ZT)  (o : Nat) (r0 : Nat) (ho : o < 27) (hr0 : r0 < 27) (σ : SG)  {res : Unit × SG} (h : m_X5_addBehind  o r0 σ  = some res) : Met l yX5_addBehind wsX5_addBehind rm_X5_addBehind (va_Pc [.ref (za Z (176 + o)), .ref (za Z (176 + r0))] (wx E (zD Z) vwCl 211 (za Z) (tX Z) (tysX Z) σ)) (xQv E (zD Z) vwCl 211 (za Z) (tX Z) (tysX Z) res) 0 0 (ws_A 211 (za Z)) := by
  refine Met.ofW (cc := cX5_addBehind) (maxL := 2) (ret := none) (by decide) rfl ?_
  intro p e s m args below meth c s₁ B hml hv
  obtain ⟨rfl, hE, hJ, hP, hK⟩ := hv
  have hl := lv_entry ([.ref (za Z (176 + o)), .ref (za Z (176 + r0))]) (n := 2) (Nat.le_of_ble_eq_true rfl)
  rw [lg_entry_eq]
  generalize (lg_sl ([.ref (za Z (176 + o)), .ref (za Z (176 + r0))]) ++ List.replicate (2 - (lg_sl ([.ref (za Z (176 + o)), .ref (za Z (176 + r0))])).length) Slot.unset).toArray = ls at hl ⊢
  exact kb_X5_addBehind_0 Z  o r0 ho hr0 ⟨B.exec, B.bytes, B.returns, B.notSynchronized, hml, findClass_of_methodNamed B.named, atoms_spec (ws := wsX5_addBehind) B.pre, hE, hJ, hK⟩ σ  h s.heap [] hP va_S.rf ls hl
/-! TuneSearch$Part.addChoice(LTuneSearch$Part;)V -/
abbrev rm_X5_addChoice : Room := { frames := 0, cells := 0, slots := 0, locals := 0 }
theorem in_X5_addChoice_X5 : ∀ w ∈ wsX50, w ∈ wsX5_addChoice := by decide +kernel
def m_X5_addChoice_20  (o : Nat) (r0 : Nat)  (σ : SG) (s0 : Int32) : Option (Unit × SG) :=
  gB (isZ s0) (lS (sI σ (176 + o) 0 s0) (fun σ4 => lS (sJ σ4 (176 + o) 1 ((σ4.2.1 (176 + o) 1) ||| (σ4.2.1 (176 + r0) 1))) (fun σ6 => lS (sJ σ6 (176 + o) 2 ((σ6.2.1 (176 + o) 2) ||| (σ6.2.1 (176 + r0) 2))) (fun σ8 => some ((), σ8)))))
set_option maxHeartbeats 4000000 in
set_option maxRecDepth 100000 in
theorem kb_X5_addChoice_20 {p : Program} {l : Launch} {e : Env} {s : State} {m : MethodId} {args : Array Value} {below : List Frame} {meth : Method} {c : Code} {E : EF} (Z : ZT)  (o : Nat) (r0 : Nat) (ho : o < 27) (hr0 : r0 < 27) (C : cy p s m args meth c cX5_addChoice none 2 RX5 wsX5_addChoice E (zD Z) vwCl 211 (za Z) (tysX Z)) {res : Unit × SG}   : ∀ (σ : SG) (s0 : Int32) , m_X5_addChoice_20  o r0  σ s0 = some res → ∀ (H : Heap) (locs : List Loc), ws_P (zD Z) vwCl 211 (za Z) (tX Z) σ H → va_S (ws_A 211 (za Z)) s.heap H locs → ∀ (ls : Array Slot), lv_has ls 2 [(0, .ref (za Z (176 + o))), (1, .ref (za Z (176 + r0)))] → W p l e rm_X5_addChoice s m args below meth c H locs 0 0 (MQ below (xQv E (zD Z) vwCl 211 (za Z) (tX Z) (tysX Z) res) args s 0 0 (ws_A 211 (za Z))) (F0 m 20 ls [.int s0, .ref (za Z (176 + o))]) := by
  have C0 := C
  obtain ⟨hx, hb, hr, hlocks, hml, hown, hts, hE, hJ, hK⟩ := C0
  intro σ s0  h H locs hP hS ls hl
  unfold m_X5_addChoice_20 at h
  obtain ⟨b3, h⟩ := gB_e h
  refine wr_put (C := RX5) (T := TX5) (N := 3) (σ' := sI σ (176 + o) 0 s0) (ty := .boolean) hx hb hts (in_X5_addChoice_X5) tyX5 tyX5_ok nmX5 hown hK hP hJ hS (k := (176 + o)) (by omega) ((tX_Part Z o ho) _ _ _) rfl 0 (by decide) (hts (.fieldLink RX5 7 "TuneSearch$Part" "empty" "Z") (by decide +kernel)) (fun _ h9 => h9) rfl (by decide +kernel) (isZ_n b3) (isZ_f b3) (Nat.le_of_ble_eq_true rfl) (ws_pI (tX_Part Z o ho) rfl) dX5_addChoice_20 (fun H locs hP hS => ?_)
  obtain ⟨σ4, e5, h⟩ := lS_e h
  rw [← e5] at hP
  refine lv_aload_n hx hb dX5_addChoice_23 rfl (lv_at hl 0 rfl) ?_
  refine lv_dup hx hb dX5_addChoice_24 rfl ?_
  refine wr_get (C := RX5) (T := TX5) (N := 3) hx hb hts (in_X5_addChoice_X5) hown hK hP (k := (176 + o)) (by omega) ((tX_Part Z o ho) _ _ _) rfl 1 (by decide) (hts (.fieldLink RX5 13 "TuneSearch$Part" "first" "J") (by decide +kernel)) (fun _ h9 => h9) rfl dX5_addChoice_25 ?_
  refine lv_aload_n hx hb dX5_addChoice_28 rfl (lv_at hl 1 rfl) ?_
  refine wr_get (C := RX5) (T := TX5) (N := 3) hx hb hts (in_X5_addChoice_X5) hown hK hP (k := (176 + r0)) (by omega) ((tX_Part Z r0 hr0) _ _ _) rfl 1 (by decide) (hts (.fieldLink RX5 13 "TuneSearch$Part" "first" "J") (by decide +kernel)) (fun _ h9 => h9) rfl dX5_addChoice_29 ?_
  refine lv_lor hx hb dX5_addChoice_32 ?_
  refine wr_put (C := RX5) (T := TX5) (N := 3) (σ' := sJ σ4 (176 + o) 1 ((σ4.2.1 (176 + o) 1) ||| (σ4.2.1 (176 + r0) 1))) (ty := .long) hx hb hts (in_X5_addChoice_X5) tyX5 tyX5_ok nmX5 hown hK hP hJ hS (k := (176 + o)) (by omega) ((tX_Part Z o ho) _ _ _) rfl 1 (by decide) (hts (.fieldLink RX5 13 "TuneSearch$Part" "first" "J") (by decide +kernel)) (fun _ h9 => h9) rfl (by decide +kernel) rfl rfl (Nat.le_of_ble_eq_true rfl) (ws_pJ (tX_Part Z o ho) rfl) dX5_addChoice_33 (fun H locs hP hS => ?_)
  obtain ⟨σ6, e7, h⟩ := lS_e h
  rw [← e7] at hP
  refine lv_aload_n hx hb dX5_addChoice_36 rfl (lv_at hl 0 rfl) ?_
  refine lv_dup hx hb dX5_addChoice_37 rfl ?_
  refine wr_get (C := RX5) (T := TX5) (N := 3) hx hb hts (in_X5_addChoice_X5) hown hK hP (k := (176 + o)) (by omega) ((tX_Part Z o ho) _ _ _) rfl 2 (by decide) (hts (.fieldLink RX5 17 "TuneSearch$Part" "last" "J") (by decide +kernel)) (fun _ h9 => h9) rfl dX5_addChoice_38 ?_
  refine lv_aload_n hx hb dX5_addChoice_41 rfl (lv_at hl 1 rfl) ?_
  refine wr_get (C := RX5) (T := TX5) (N := 3) hx hb hts (in_X5_addChoice_X5) hown hK hP (k := (176 + r0)) (by omega) ((tX_Part Z r0 hr0) _ _ _) rfl 2 (by decide) (hts (.fieldLink RX5 17 "TuneSearch$Part" "last" "J") (by decide +kernel)) (fun _ h9 => h9) rfl dX5_addChoice_42 ?_
  refine lv_lor hx hb dX5_addChoice_45 ?_
  refine wr_put (C := RX5) (T := TX5) (N := 3) (σ' := sJ σ6 (176 + o) 2 ((σ6.2.1 (176 + o) 2) ||| (σ6.2.1 (176 + r0) 2))) (ty := .long) hx hb hts (in_X5_addChoice_X5) tyX5 tyX5_ok nmX5 hown hK hP hJ hS (k := (176 + o)) (by omega) ((tX_Part Z o ho) _ _ _) rfl 2 (by decide) (hts (.fieldLink RX5 17 "TuneSearch$Part" "last" "J") (by decide +kernel)) (fun _ h9 => h9) rfl (by decide +kernel) rfl rfl (Nat.le_of_ble_eq_true rfl) (ws_pJ (tX_Part Z o ho) rfl) dX5_addChoice_46 (fun H locs hP hS => ?_)
  obtain ⟨σ8, e9, h⟩ := lS_e h
  rw [← e9] at hP
  exact xr_vret hx hb hr hlocks hE hJ hK hP hS h dX5_addChoice_49
def m_X5_addChoice_15  (o : Nat) (r0 : Nat)  (σ : SG)  : Option (Unit × SG) :=
  m_X5_addChoice_20  o r0  σ 1
set_option maxHeartbeats 4000000 in
set_option maxRecDepth 100000 in
theorem kb_X5_addChoice_15 {p : Program} {l : Launch} {e : Env} {s : State} {m : MethodId} {args : Array Value} {below : List Frame} {meth : Method} {c : Code} {E : EF} (Z : ZT)  (o : Nat) (r0 : Nat) (ho : o < 27) (hr0 : r0 < 27) (C : cy p s m args meth c cX5_addChoice none 2 RX5 wsX5_addChoice E (zD Z) vwCl 211 (za Z) (tysX Z)) {res : Unit × SG}   : ∀ (σ : SG)  , m_X5_addChoice_15  o r0  σ  = some res → ∀ (H : Heap) (locs : List Loc), ws_P (zD Z) vwCl 211 (za Z) (tX Z) σ H → va_S (ws_A 211 (za Z)) s.heap H locs → ∀ (ls : Array Slot), lv_has ls 2 [(0, .ref (za Z (176 + o))), (1, .ref (za Z (176 + r0)))] → W p l e rm_X5_addChoice s m args below meth c H locs 0 0 (MQ below (xQv E (zD Z) vwCl 211 (za Z) (tX Z) (tysX Z) res) args s 0 0 (ws_A 211 (za Z))) (F0 m 15 ls [.ref (za Z (176 + o))]) := by
  have C0 := C
  obtain ⟨hx, hb, hr, hlocks, hml, hown, hts, hE, hJ, hK⟩ := C0
  intro σ   h H locs hP hS ls hl
  unfold m_X5_addChoice_15 at h
  refine lv_iconst (v := 1) hx hb dX5_addChoice_15 (by decide) ?_
  refine lv_goto (tgt := 20) hx hb dX5_addChoice_16 (by decide) ?_
  exact kb_X5_addChoice_20 Z  o r0 ho hr0 C   σ 1 h H locs hP hS ls (lv_sub hl [0, 1] rfl)
def m_X5_addChoice_0  (o : Nat) (r0 : Nat)  (σ : SG)  : Option (Unit × SG) :=
  if ¬ (σ.1 (176 + o) 0) = 0 then (m_X5_addChoice_15  o r0  σ ) else (if (σ.1 (176 + r0) 0) = 0 then (m_X5_addChoice_20  o r0  σ 0) else (m_X5_addChoice_15  o r0  σ ))
set_option maxHeartbeats 4000000 in
set_option maxRecDepth 100000 in
theorem kb_X5_addChoice_0 {p : Program} {l : Launch} {e : Env} {s : State} {m : MethodId} {args : Array Value} {below : List Frame} {meth : Method} {c : Code} {E : EF} (Z : ZT)  (o : Nat) (r0 : Nat) (ho : o < 27) (hr0 : r0 < 27) (C : cy p s m args meth c cX5_addChoice none 2 RX5 wsX5_addChoice E (zD Z) vwCl 211 (za Z) (tysX Z)) {res : Unit × SG}   : ∀ (σ : SG)  , m_X5_addChoice_0  o r0  σ  = some res → ∀ (H : Heap) (locs : List Loc), ws_P (zD Z) vwCl 211 (za Z) (tX Z) σ H → va_S (ws_A 211 (za Z)) s.heap H locs → ∀ (ls : Array Slot), lv_has ls 2 [(0, .ref (za Z (176 + o))), (1, .ref (za Z (176 + r0)))] → W p l e rm_X5_addChoice s m args below meth c H locs 0 0 (MQ below (xQv E (zD Z) vwCl 211 (za Z) (tX Z) (tysX Z) res) args s 0 0 (ws_A 211 (za Z))) (F0 m 0 ls []) := by
  have C0 := C
  obtain ⟨hx, hb, hr, hlocks, hml, hown, hts, hE, hJ, hK⟩ := C0
  intro σ   h H locs hP hS ls hl
  unfold m_X5_addChoice_0 at h
  refine lv_aload_n hx hb dX5_addChoice_0 rfl (lv_at hl 0 rfl) ?_
  refine lv_aload_n hx hb dX5_addChoice_1 rfl (lv_at hl 0 rfl) ?_
  refine wr_get (C := RX5) (T := TX5) (N := 3) hx hb hts (in_X5_addChoice_X5) hown hK hP (k := (176 + o)) (by omega) ((tX_Part Z o ho) _ _ _) rfl 0 (by decide) (hts (.fieldLink RX5 7 "TuneSearch$Part" "empty" "Z") (by decide +kernel)) (fun _ h9 => h9) rfl dX5_addChoice_2 ?_
  refine lv_if_ne (tgt := 15) hx hb dX5_addChoice_5 (by decide) (fun q1 => ?_) (fun q1 => ?_)
  · have h := if_p h q1
    exact kb_X5_addChoice_15 Z  o r0 ho hr0 C   σ  h H locs hP hS ls (lv_sub hl [0, 1] rfl)
  · have h := if_n h (fun z => z q1)
    refine lv_aload_n hx hb dX5_addChoice_8 rfl (lv_at hl 1 rfl) ?_
    refine wr_get (C := RX5) (T := TX5) (N := 3) hx hb hts (in_X5_addChoice_X5) hown hK hP (k := (176 + r0)) (by omega) ((tX_Part Z r0 hr0) _ _ _) rfl 0 (by decide) (hts (.fieldLink RX5 7 "TuneSearch$Part" "empty" "Z") (by decide +kernel)) (fun _ h9 => h9) rfl dX5_addChoice_9 ?_
    refine lv_if_eq (tgt := 19) hx hb dX5_addChoice_12 (by decide) (fun q2 => ?_) (fun q2 => ?_)
    · have h := if_p h q2
      refine lv_iconst (v := 0) hx hb dX5_addChoice_19 (by decide) ?_
      exact kb_X5_addChoice_20 Z  o r0 ho hr0 C   σ 0 h H locs hP hS ls (lv_sub hl [0, 1] rfl)
    · have h := if_n h q2
      exact kb_X5_addChoice_15 Z  o r0 ho hr0 C   σ  h H locs hP hS ls (lv_sub hl [0, 1] rfl)
def m_X5_addChoice  (o : Nat) (r0 : Nat) (σ : SG)  : Option (Unit × SG) := m_X5_addChoice_0  o r0 σ 
set_option maxHeartbeats 4000000 in
set_option maxRecDepth 100000 in
theorem k_X5_addChoice (l : Launch) {E : EF} (Z : ZT)  (o : Nat) (r0 : Nat) (ho : o < 27) (hr0 : r0 < 27) (σ : SG)  {res : Unit × SG} (h : m_X5_addChoice  o r0 σ  = some res) : Met l yX5_addChoice wsX5_addChoice rm_X5_addChoice (va_Pc [.ref (za Z (176 + o)), .ref (za Z (176 + r0))] (wx E (zD Z) vwCl 211 (za Z) (tX Z) (tysX Z) σ)) (xQv E (zD Z) vwCl 211 (za Z) (tX Z) (tysX Z) res) 0 0 (ws_A 211 (za Z)) := by
  refine Met.ofW (cc := cX5_addChoice) (maxL := 2) (ret := none) (by decide) rfl ?_
  intro p e s m args below meth c s₁ B hml hv
  obtain ⟨rfl, hE, hJ, hP, hK⟩ := hv
  have hl := lv_entry ([.ref (za Z (176 + o)), .ref (za Z (176 + r0))]) (n := 2) (Nat.le_of_ble_eq_true rfl)
  rw [lg_entry_eq]
  generalize (lg_sl ([.ref (za Z (176 + o)), .ref (za Z (176 + r0))]) ++ List.replicate (2 - (lg_sl ([.ref (za Z (176 + o)), .ref (za Z (176 + r0))])).length) Slot.unset).toArray = ls at hl ⊢
  exact kb_X5_addChoice_0 Z  o r0 ho hr0 ⟨B.exec, B.bytes, B.returns, B.notSynchronized, hml, findClass_of_methodNamed B.named, atoms_spec (ws := wsX5_addChoice) B.pre, hE, hJ, hK⟩ σ  h s.heap [] hP va_S.rf ls hl
/-! TuneSearch$NoteRow.isFull()Z -/
abbrev rm_X4_isFull : Room := { frames := 0, cells := 0, slots := 0, locals := 0 }
theorem in_X4_isFull_X4 : ∀ w ∈ wsX40, w ∈ wsX4_isFull := by decide +kernel
def m_X4_isFull_0  (o : Nat)  (σ : SG)  : Option (Int32 × SG) :=
  if (σ.1 (156 + o) 2) < (nI (lenX (2 * o))) then (some (0, σ)) else (some (1, σ))
set_option maxHeartbeats 4000000 in
set_option maxRecDepth 100000 in
theorem kb_X4_isFull_0 {p : Program} {l : Launch} {e : Env} {s : State} {m : MethodId} {args : Array Value} {below : List Frame} {meth : Method} {c : Code} {E : EF} (Z : ZT)  (o : Nat) (ho : o < 9) (C : cy p s m args meth c cX4_isFull (some .boolean) 1 RX4 wsX4_isFull E (zD Z) vwCl 211 (za Z) (tysX Z)) {res : Int32 × SG}   : ∀ (σ : SG)  , m_X4_isFull_0  o  σ  = some res → ∀ (H : Heap) (locs : List Loc), ws_P (zD Z) vwCl 211 (za Z) (tX Z) σ H → va_S (ws_A 211 (za Z)) s.heap H locs → ∀ (ls : Array Slot), lv_has ls 1 [(0, .ref (za Z (156 + o)))] → W p l e rm_X4_isFull s m args below meth c H locs 0 0 (MQ below (xQi E (zD Z) vwCl 211 (za Z) (tX Z) (tysX Z) res) args s 0 0 (ws_A 211 (za Z))) (F0 m 0 ls []) := by
  have C0 := C
  obtain ⟨hx, hb, hr, hlocks, hml, hown, hts, hE, hJ, hK⟩ := C0
  intro σ   h H locs hP hS ls hl
  unfold m_X4_isFull_0 at h
  refine lv_aload_n hx hb dX4_isFull_0 rfl (lv_at hl 0 rfl) ?_
  refine wr_get (C := RX4) (T := TX4) (N := 3) hx hb hts (in_X4_isFull_X4) hown hK hP (k := (156 + o)) (by omega) ((tX_NoteRow Z o ho) _ _ _) rfl 2 (by decide) (hts (.fieldLink RX4 18 "TuneSearch$NoteRow" "count" "I") (by decide +kernel)) (fun _ h9 => h9) rfl dX4_isFull_1 ?_
  refine lv_aload_n hx hb dX4_isFull_4 rfl (lv_at hl 0 rfl) ?_
  refine wr_get (C := RX4) (T := TX4) (N := 3) hx hb hts (in_X4_isFull_X4) hown hK hP (k := (156 + o)) (by omega) ((tX_NoteRow Z o ho) _ _ _) rfl 0 (by decide) (hts (.fieldLink RX4 9 "TuneSearch$NoteRow" "pitches" "[I") (by decide +kernel)) (fun _ h9 => h9) rfl dX4_isFull_5 ?_
  refine wr_alen (v := nI (lenX (2 * o))) hx hb hK hP (k := (2 * o)) (by omega) 0 ((tX_I Z (2 * o) (by omega)) _ _ _) rfl rfl dX4_isFull_8 ?_
  refine lv_icmp_lt (tgt := 16) hx hb dX4_isFull_9 (by decide) (fun q1 => ?_) (fun q1 => ?_)
  · have h := if_p h q1
    refine lv_iconst (v := 0) hx hb dX4_isFull_16 (by decide) ?_
    exact xr_zret hx hb hr hlocks hE hJ hK hP hS rfl h dX4_isFull_17
  · have h := if_n h q1
    refine lv_iconst (v := 1) hx hb dX4_isFull_12 (by decide) ?_
    refine lv_goto (tgt := 17) hx hb dX4_isFull_13 (by decide) ?_
    exact xr_zret hx hb hr hlocks hE hJ hK hP hS rfl h dX4_isFull_17
def m_X4_isFull  (o : Nat) (σ : SG)  : Option (Int32 × SG) := m_X4_isFull_0  o σ 
set_option maxHeartbeats 4000000 in
set_option maxRecDepth 100000 in
theorem k_X4_isFull (l : Launch) {E : EF} (Z : ZT)  (o : Nat) (ho : o < 9) (σ : SG)  {res : Int32 × SG} (h : m_X4_isFull  o σ  = some res) : Met l yX4_isFull wsX4_isFull rm_X4_isFull (va_Pc [.ref (za Z (156 + o))] (wx E (zD Z) vwCl 211 (za Z) (tX Z) (tysX Z) σ)) (xQi E (zD Z) vwCl 211 (za Z) (tX Z) (tysX Z) res) 0 0 (ws_A 211 (za Z)) := by
  refine Met.ofW (cc := cX4_isFull) (maxL := 1) (ret := (some .boolean)) (by decide) rfl ?_
  intro p e s m args below meth c s₁ B hml hv
  obtain ⟨rfl, hE, hJ, hP, hK⟩ := hv
  have hl := lv_entry ([.ref (za Z (156 + o))]) (n := 1) (Nat.le_of_ble_eq_true rfl)
  rw [lg_entry_eq]
  generalize (lg_sl ([.ref (za Z (156 + o))]) ++ List.replicate (1 - (lg_sl ([.ref (za Z (156 + o))])).length) Slot.unset).toArray = ls at hl ⊢
  exact kb_X4_isFull_0 Z  o ho ⟨B.exec, B.bytes, B.returns, B.notSynchronized, hml, findClass_of_methodNamed B.named, atoms_spec (ws := wsX4_isFull) B.pre, hE, hJ, hK⟩ σ  h s.heap [] hP va_S.rf ls hl
/-! TuneSearch$NoteRow.lengthOfAll()I -/
abbrev rm_X4_lengthOfAll : Room := { frames := 0, cells := 0, slots := 0, locals := 0 }
theorem in_X4_lengthOfAll_X4 : ∀ w ∈ wsX40, w ∈ wsX4_lengthOfAll := by decide +kernel
def m_X4_lengthOfAll_4_s  (o : Nat)  (c4 : SG → Int32 → Int32 → Option (Int32 × SG)) (σ : SG) (l1 : Int32) (l2 : Int32) : Option (Int32 × SG) :=
  if (σ.1 (156 + o) 2) ≤ l2 then (some (l1, σ)) else (gB (inB l2 (lenX (2 * o + 1))) (lS (l1 + (σ.1 (2 * o + 1) l2.toNatClampNeg)) (fun v3 => lS (l2 + 1) (fun v5 => c4 σ v3 v5))))
def m_X4_lengthOfAll_4  (o : Nat)  : Nat → SG → Int32 → Int32 → Option (Int32 × SG)
  | 0, _, _, _ => none
  | n + 1, σ, l1, l2 => m_X4_lengthOfAll_4_s  o  (m_X4_lengthOfAll_4  o  n) σ l1 l2
set_option maxHeartbeats 4000000 in
set_option maxRecDepth 100000 in
theorem kb_X4_lengthOfAll_4 {p : Program} {l : Launch} {e : Env} {s : State} {m : MethodId} {args : Array Value} {below : List Frame} {meth : Method} {c : Code} {E : EF} (Z : ZT)  (o : Nat) (ho : o < 9) (C : cy p s m args meth c cX4_lengthOfAll (some .int) 3 RX4 wsX4_lengthOfAll E (zD Z) vwCl 211 (za Z) (tysX Z)) {res : Int32 × SG}   : ∀ (n : Nat) (σ : SG) (l1 : Int32) (l2 : Int32) , m_X4_lengthOfAll_4  o  n σ l1 l2 = some res → ∀ (H : Heap) (locs : List Loc), ws_P (zD Z) vwCl 211 (za Z) (tX Z) σ H → va_S (ws_A 211 (za Z)) s.heap H locs → ∀ (ls : Array Slot), lv_has ls 3 [(0, .ref (za Z (156 + o))), (1, .int l1), (2, .int l2)] → W p l e rm_X4_lengthOfAll s m args below meth c H locs 0 0 (MQ below (xQi E (zD Z) vwCl 211 (za Z) (tX Z) (tysX Z) res) args s 0 0 (ws_A 211 (za Z))) (F0 m 4 ls []) := by
  have C0 := C
  obtain ⟨hx, hb, hr, hlocks, hml, hown, hts, hE, hJ, hK⟩ := C0
  intro n
  induction n with
  | zero =>
    intro σ l1 l2  h
    cases h
  | succ n ih =>
    intro σ l1 l2  h H locs hP hS ls hl
    have hc4 : ∀ (σ : SG) (l1 : Int32) (l2 : Int32) , m_X4_lengthOfAll_4  o  n σ l1 l2 = some res → ∀ (H : Heap) (locs : List Loc), ws_P (zD Z) vwCl 211 (za Z) (tX Z) σ H → va_S (ws_A 211 (za Z)) s.heap H locs → ∀ (ls : Array Slot), lv_has ls 3 [(0, .ref (za Z (156 + o))), (1, .int l1), (2, .int l2)] → W p l e rm_X4_lengthOfAll s m args below meth c H locs 0 0 (MQ below (xQi E (zD Z) vwCl 211 (za Z) (tX Z) (tysX Z) res) args s 0 0 (ws_A 211 (za Z))) (F0 m 4 ls []) := ih
    have h : m_X4_lengthOfAll_4_s  o  (m_X4_lengthOfAll_4  o  n) σ l1 l2 = some res := h
    unfold m_X4_lengthOfAll_4_s at h
    refine lv_iload_n hx hb dX4_lengthOfAll_4 rfl (lv_at hl 2 rfl) ?_
    refine lv_aload_n hx hb dX4_lengthOfAll_5 rfl (lv_at hl 0 rfl) ?_
    refine wr_get (C := RX4) (T := TX4) (N := 3) hx hb hts (in_X4_lengthOfAll_X4) hown hK hP (k := (156 + o)) (by omega) ((tX_NoteRow Z o ho) _ _ _) rfl 2 (by decide) (hts (.fieldLink RX4 18 "TuneSearch$NoteRow" "count" "I") (by decide +kernel)) (fun _ h9 => h9) rfl dX4_lengthOfAll_6 ?_
    refine lv_icmp_ge (tgt := 27) hx hb dX4_lengthOfAll_9 (by decide) (fun q1 => ?_) (fun q1 => ?_)
    · have h := if_p h q1
      refine lv_iload_n hx hb dX4_lengthOfAll_27 rfl (lv_at hl 1 rfl) ?_
      exact xr_iret hx hb hr hlocks hE hJ hK hP hS h dX4_lengthOfAll_28
    · have h := if_n h q1
      refine lv_iload_n hx hb dX4_lengthOfAll_12 rfl (lv_at hl 1 rfl) ?_
      refine lv_aload_n hx hb dX4_lengthOfAll_13 rfl (lv_at hl 0 rfl) ?_
      refine wr_get (C := RX4) (T := TX4) (N := 3) hx hb hts (in_X4_lengthOfAll_X4) hown hK hP (k := (156 + o)) (by omega) ((tX_NoteRow Z o ho) _ _ _) rfl 1 (by decide) (hts (.fieldLink RX4 15 "TuneSearch$NoteRow" "lengths" "[I") (by decide +kernel)) (fun _ h9 => h9) rfl dX4_lengthOfAll_14 ?_
      refine lv_iload_n hx hb dX4_lengthOfAll_17 rfl (lv_at hl 2 rfl) ?_
      obtain ⟨b2, h⟩ := gB_e h
      refine wr_iald hx hb hK hP (k := (2 * o + 1)) (by omega) 0 ((tX_I Z (2 * o + 1) (by omega)) _ _ _) rfl b2 dX4_lengthOfAll_18 ?_
      refine lv_iadd hx hb dX4_lengthOfAll_19 ?_
      refine lv_topi (fun v3 e4 => ?_)
      have h := lS_u h e4
      refine lv_istore_n (lv' := [(1, .int v3), (0, .ref (za Z (156 + o))), (2, .int l2)]) hx hb dX4_lengthOfAll_20 rfl hl (by decide) rfl (fun ls hl => ?_)
      obtain ⟨v5, e6, h⟩ := lS_e h
      refine lv_iinc (v := v5) (lv' := [(2, .int v5), (1, .int v3), (0, .ref (za Z (156 + o)))]) hx hb dX4_lengthOfAll_21 hl (k := 2) rfl (by rw [e6]; rfl) (by decide) rfl (fun ls hl => ?_)
      refine lv_goto (tgt := 4) hx hb dX4_lengthOfAll_24 (by decide) ?_
      exact hc4 σ v3 v5 h H locs hP hS ls (lv_sub hl [2, 1, 0] rfl)
def m_X4_lengthOfAll_0  (o : Nat)  (σ : SG)  : Option (Int32 × SG) :=
  m_X4_lengthOfAll_4  o  FV σ 0 0
set_option maxHeartbeats 4000000 in
set_option maxRecDepth 100000 in
theorem kb_X4_lengthOfAll_0 {p : Program} {l : Launch} {e : Env} {s : State} {m : MethodId} {args : Array Value} {below : List Frame} {meth : Method} {c : Code} {E : EF} (Z : ZT)  (o : Nat) (ho : o < 9) (C : cy p s m args meth c cX4_lengthOfAll (some .int) 3 RX4 wsX4_lengthOfAll E (zD Z) vwCl 211 (za Z) (tysX Z)) {res : Int32 × SG}   : ∀ (σ : SG)  , m_X4_lengthOfAll_0  o  σ  = some res → ∀ (H : Heap) (locs : List Loc), ws_P (zD Z) vwCl 211 (za Z) (tX Z) σ H → va_S (ws_A 211 (za Z)) s.heap H locs → ∀ (ls : Array Slot), lv_has ls 3 [(0, .ref (za Z (156 + o)))] → W p l e rm_X4_lengthOfAll s m args below meth c H locs 0 0 (MQ below (xQi E (zD Z) vwCl 211 (za Z) (tX Z) (tysX Z) res) args s 0 0 (ws_A 211 (za Z))) (F0 m 0 ls []) := by
  have C0 := C
  obtain ⟨hx, hb, hr, hlocks, hml, hown, hts, hE, hJ, hK⟩ := C0
  intro σ   h H locs hP hS ls hl
  unfold m_X4_lengthOfAll_0 at h
  refine lv_iconst (v := 0) hx hb dX4_lengthOfAll_0 (by decide) ?_
  refine lv_istore_n (lv' := [(1, .int 0), (0, .ref (za Z (156 + o)))]) hx hb dX4_lengthOfAll_1 rfl hl (by decide) rfl (fun ls hl => ?_)
  refine lv_iconst (v := 0) hx hb dX4_lengthOfAll_2 (by decide) ?_
  refine lv_istore_n (lv' := [(2, .int 0), (1, .int 0), (0, .ref (za Z (156 + o)))]) hx hb dX4_lengthOfAll_3 rfl hl (by decide) rfl (fun ls hl => ?_)
  exact kb_X4_lengthOfAll_4 Z  o ho C   FV σ 0 0 h H locs hP hS ls (lv_sub hl [2, 1, 0] rfl)
def m_X4_lengthOfAll  (o : Nat) (σ : SG)  : Option (Int32 × SG) := m_X4_lengthOfAll_0  o σ 
set_option maxHeartbeats 4000000 in
set_option maxRecDepth 100000 in
theorem k_X4_lengthOfAll (l : Launch) {E : EF} (Z : ZT)  (o : Nat) (ho : o < 9) (σ : SG)  {res : Int32 × SG} (h : m_X4_lengthOfAll  o σ  = some res) : Met l yX4_lengthOfAll wsX4_lengthOfAll rm_X4_lengthOfAll (va_Pc [.ref (za Z (156 + o))] (wx E (zD Z) vwCl 211 (za Z) (tX Z) (tysX Z) σ)) (xQi E (zD Z) vwCl 211 (za Z) (tX Z) (tysX Z) res) 0 0 (ws_A 211 (za Z)) := by
  refine Met.ofW (cc := cX4_lengthOfAll) (maxL := 3) (ret := (some .int)) (by decide) rfl ?_
  intro p e s m args below meth c s₁ B hml hv
  obtain ⟨rfl, hE, hJ, hP, hK⟩ := hv
  have hl := lv_entry ([.ref (za Z (156 + o))]) (n := 3) (Nat.le_of_ble_eq_true rfl)
  rw [lg_entry_eq]
  generalize (lg_sl ([.ref (za Z (156 + o))]) ++ List.replicate (3 - (lg_sl ([.ref (za Z (156 + o))])).length) Slot.unset).toArray = ls at hl ⊢
  exact kb_X4_lengthOfAll_0 Z  o ho ⟨B.exec, B.bytes, B.returns, B.notSynchronized, hml, findClass_of_methodNamed B.named, atoms_spec (ws := wsX4_lengthOfAll) B.pre, hE, hJ, hK⟩ σ  h s.heap [] hP va_S.rf ls hl
/-! TuneSearch$NoteRow.append(II)V -/
abbrev rm_X4_append : Room := { frames := 0, cells := 0, slots := 0, locals := 0 }
theorem in_X4_append_X4 : ∀ w ∈ wsX40, w ∈ wsX4_append := by decide +kernel
def m_X4_append_0  (o : Nat)  (σ : SG) (p0 : Int32) (p1 : Int32) : Option (Unit × SG) :=
  gB (inB (σ.1 (156 + o) 2) (lenX (2 * o))) (lS (sI σ (2 * o) (σ.1 (156 + o) 2).toNatClampNeg p0) (fun σ2 => gB (inB (σ2.1 (156 + o) 2) (lenX (2 * o + 1))) (lS (sI σ2 (2 * o + 1) (σ2.1 (156 + o) 2).toNatClampNeg p1) (fun σ5 => lS (sI σ5 (156 + o) 2 ((σ5.1 (156 + o) 2) + 1)) (fun σ7 => some ((), σ7))))))
set_option maxHeartbeats 4000000 in
set_option maxRecDepth 100000 in
theorem kb_X4_append_0 {p : Program} {l : Launch} {e : Env} {s : State} {m : MethodId} {args : Array Value} {below : List Frame} {meth : Method} {c : Code} {E : EF} (Z : ZT)  (o : Nat) (ho : o < 9) (C : cy p s m args meth c cX4_append none 3 RX4 wsX4_append E (zD Z) vwCl 211 (za Z) (tysX Z)) {res : Unit × SG}   : ∀ (σ : SG) (p0 : Int32) (p1 : Int32) , m_X4_append_0  o  σ p0 p1 = some res → ∀ (H : Heap) (locs : List Loc), ws_P (zD Z) vwCl 211 (za Z) (tX Z) σ H → va_S (ws_A 211 (za Z)) s.heap H locs → ∀ (ls : Array Slot), lv_has ls 3 [(0, .ref (za Z (156 + o))), (1, .int p0), (2, .int p1)] → W p l e rm_X4_append s m args below meth c H locs 0 0 (MQ below (xQv E (zD Z) vwCl 211 (za Z) (tX Z) (tysX Z) res) args s 0 0 (ws_A 211 (za Z))) (F0 m 0 ls []) := by
  have C0 := C
  obtain ⟨hx, hb, hr, hlocks, hml, hown, hts, hE, hJ, hK⟩ := C0
  intro σ p0 p1  h H locs hP hS ls hl
  unfold m_X4_append_0 at h
  refine lv_aload_n hx hb dX4_append_0 rfl (lv_at hl 0 rfl) ?_
  refine wr_get (C := RX4) (T := TX4) (N := 3) hx hb hts (in_X4_append_X4) hown hK hP (k := (156 + o)) (by omega) ((tX_NoteRow Z o ho) _ _ _) rfl 0 (by decide) (hts (.fieldLink RX4 9 "TuneSearch$NoteRow" "pitches" "[I") (by decide +kernel)) (fun _ h9 => h9) rfl dX4_append_1 ?_
  refine lv_aload_n hx hb dX4_append_4 rfl (lv_at hl 0 rfl) ?_
  refine wr_get (C := RX4) (T := TX4) (N := 3) hx hb hts (in_X4_append_X4) hown hK hP (k := (156 + o)) (by omega) ((tX_NoteRow Z o ho) _ _ _) rfl 2 (by decide) (hts (.fieldLink RX4 18 "TuneSearch$NoteRow" "count" "I") (by decide +kernel)) (fun _ h9 => h9) rfl dX4_append_5 ?_
  refine lv_iload_n hx hb dX4_append_8 rfl (lv_at hl 1 rfl) ?_
  obtain ⟨b1, h⟩ := gB_e h
  refine wr_iast hx hb hK hP hJ hS (k := (2 * o)) (by omega) 0 (tX_I Z (2 * o) (by omega)) rfl b1 dX4_append_9 (fun H locs hP hS => ?_)
  obtain ⟨σ2, e3, h⟩ := lS_e h
  rw [← e3] at hP
  refine lv_aload_n hx hb dX4_append_10 rfl (lv_at hl 0 rfl) ?_
  refine wr_get (C := RX4) (T := TX4) (N := 3) hx hb hts (in_X4_append_X4) hown hK hP (k := (156 + o)) (by omega) ((tX_NoteRow Z o ho) _ _ _) rfl 1 (by decide) (hts (.fieldLink RX4 15 "TuneSearch$NoteRow" "lengths" "[I") (by decide +kernel)) (fun _ h9 => h9) rfl dX4_append_11 ?_
  refine lv_aload_n hx hb dX4_append_14 rfl (lv_at hl 0 rfl) ?_
  refine wr_get (C := RX4) (T := TX4) (N := 3) hx hb hts (in_X4_append_X4) hown hK hP (k := (156 + o)) (by omega) ((tX_NoteRow Z o ho) _ _ _) rfl 2 (by decide) (hts (.fieldLink RX4 18 "TuneSearch$NoteRow" "count" "I") (by decide +kernel)) (fun _ h9 => h9) rfl dX4_append_15 ?_
  refine lv_iload_n hx hb dX4_append_18 rfl (lv_at hl 2 rfl) ?_
  obtain ⟨b4, h⟩ := gB_e h
  refine wr_iast hx hb hK hP hJ hS (k := (2 * o + 1)) (by omega) 0 (tX_I Z (2 * o + 1) (by omega)) rfl b4 dX4_append_19 (fun H locs hP hS => ?_)
  obtain ⟨σ5, e6, h⟩ := lS_e h
  rw [← e6] at hP
  refine lv_aload_n hx hb dX4_append_20 rfl (lv_at hl 0 rfl) ?_
  refine lv_dup hx hb dX4_append_21 rfl ?_
  refine wr_get (C := RX4) (T := TX4) (N := 3) hx hb hts (in_X4_append_X4) hown hK hP (k := (156 + o)) (by omega) ((tX_NoteRow Z o ho) _ _ _) rfl 2 (by decide) (hts (.fieldLink RX4 18 "TuneSearch$NoteRow" "count" "I") (by decide +kernel)) (fun _ h9 => h9) rfl dX4_append_22 ?_
  refine lv_iconst (v := 1) hx hb dX4_append_25 (by decide) ?_
  refine lv_iadd hx hb dX4_append_26 ?_
  refine wr_put (C := RX4) (T := TX4) (N := 3) (σ' := sI σ5 (156 + o) 2 ((σ5.1 (156 + o) 2) + 1)) (ty := .int) hx hb hts (in_X4_append_X4) tyX4 tyX4_ok nmX4 hown hK hP hJ hS (k := (156 + o)) (by omega) ((tX_NoteRow Z o ho) _ _ _) rfl 2 (by decide) (hts (.fieldLink RX4 18 "TuneSearch$NoteRow" "count" "I") (by decide +kernel)) (fun _ h9 => h9) rfl (by decide +kernel) rfl rfl (Nat.le_of_ble_eq_true rfl) (ws_pI (tX_NoteRow Z o ho) rfl) dX4_append_27 (fun H locs hP hS => ?_)
  obtain ⟨σ7, e8, h⟩ := lS_e h
  rw [← e8] at hP
  exact xr_vret hx hb hr hlocks hE hJ hK hP hS h dX4_append_30
def m_X4_append  (o : Nat) (σ : SG) (p0 : Int32) (p1 : Int32) : Option (Unit × SG) := m_X4_append_0  o σ p0 p1
set_option maxHeartbeats 4000000 in
set_option maxRecDepth 100000 in
theorem k_X4_append (l : Launch) {E : EF} (Z : ZT)  (o : Nat) (ho : o < 9) (σ : SG) (p0 : Int32) (p1 : Int32) {res : Unit × SG} (h : m_X4_append  o σ p0 p1 = some res) : Met l yX4_append wsX4_append rm_X4_append (va_Pc [.ref (za Z (156 + o)), .int p0, .int p1] (wx E (zD Z) vwCl 211 (za Z) (tX Z) (tysX Z) σ)) (xQv E (zD Z) vwCl 211 (za Z) (tX Z) (tysX Z) res) 0 0 (ws_A 211 (za Z)) := by
  refine Met.ofW (cc := cX4_append) (maxL := 3) (ret := none) (by decide) rfl ?_
  intro p e s m args below meth c s₁ B hml hv
  obtain ⟨rfl, hE, hJ, hP, hK⟩ := hv
  have hl := lv_entry ([.ref (za Z (156 + o)), .int p0, .int p1]) (n := 3) (Nat.le_of_ble_eq_true rfl)
  rw [lg_entry_eq]
  generalize (lg_sl ([.ref (za Z (156 + o)), .int p0, .int p1]) ++ List.replicate (3 - (lg_sl ([.ref (za Z (156 + o)), .int p0, .int p1])).length) Slot.unset).toArray = ls at hl ⊢
  exact kb_X4_append_0 Z  o ho ⟨B.exec, B.bytes, B.returns, B.notSynchronized, hml, findClass_of_methodNamed B.named, atoms_spec (ws := wsX4_append) B.pre, hE, hJ, hK⟩ σ p0 p1 h s.heap [] hP va_S.rf ls hl
/-! TuneSearch$Tape.hasRoomFor(I)Z -/
abbrev rm_X7_hasRoomFor : Room := { frames := 0, cells := 0, slots := 0, locals := 0 }
theorem in_X7_hasRoomFor_X7 : ∀ w ∈ wsX70, w ∈ wsX7_hasRoomFor := by decide +kernel
def m_X7_hasRoomFor_0    (σ : SG) (p0 : Int32) : Option (Int32 × SG) :=
  if 160 < ((σ.1 165 1) + p0) then (some (0, σ)) else (some (1, σ))
set_option maxHeartbeats 4000000 in
set_option maxRecDepth 100000 in
theorem kb_X7_hasRoomFor_0 {p : Program} {l : Launch} {e : Env} {s : State} {m : MethodId} {args : Array Value} {below : List Frame} {meth : Method} {c : Code} {E : EF} (Z : ZT)    (C : cy p s m args meth c cX7_hasRoomFor (some .boolean) 2 RX7 wsX7_hasRoomFor E (zD Z) vwCl 211 (za Z) (tysX Z)) {res : Int32 × SG}   : ∀ (σ : SG) (p0 : Int32) , m_X7_hasRoomFor_0    σ p0 = some res → ∀ (H : Heap) (locs : List Loc), ws_P (zD Z) vwCl 211 (za Z) (tX Z) σ H → va_S (ws_A 211 (za Z)) s.heap H locs → ∀ (ls : Array Slot), lv_has ls 2 [(0, .ref (za Z 165)), (1, .int p0)] → W p l e rm_X7_hasRoomFor s m args below meth c H locs 0 0 (MQ below (xQi E (zD Z) vwCl 211 (za Z) (tX Z) (tysX Z) res) args s 0 0 (ws_A 211 (za Z))) (F0 m 0 ls []) := by
  have C0 := C
  obtain ⟨hx, hb, hr, hlocks, hml, hown, hts, hE, hJ, hK⟩ := C0
  intro σ p0  h H locs hP hS ls hl
  unfold m_X7_hasRoomFor_0 at h
  refine lv_aload_n hx hb dX7_hasRoomFor_0 rfl (lv_at hl 0 rfl) ?_
  refine wr_get (C := RX7) (T := TX7) (N := 2) hx hb hts (in_X7_hasRoomFor_X7) hown hK hP (k := 165) (by decide) ((tX_Tape Z) _ _ _) rfl 1 (by decide) (hts (.fieldLink RX7 13 "TuneSearch$Tape" "count" "I") (by decide +kernel)) (fun _ h9 => h9) rfl dX7_hasRoomFor_1 ?_
  refine lv_iload_n hx hb dX7_hasRoomFor_4 rfl (lv_at hl 1 rfl) ?_
  refine lv_iadd hx hb dX7_hasRoomFor_5 ?_
  refine lv_sipush (v := 160) hx hb dX7_hasRoomFor_6 (by decide) ?_
  refine lv_icmp_gt (tgt := 16) hx hb dX7_hasRoomFor_9 (by decide) (fun q1 => ?_) (fun q1 => ?_)
  · have h := if_p h q1
    refine lv_iconst (v := 0) hx hb dX7_hasRoomFor_16 (by decide) ?_
    exact xr_zret hx hb hr hlocks hE hJ hK hP hS rfl h dX7_hasRoomFor_17
  · have h := if_n h q1
    refine lv_iconst (v := 1) hx hb dX7_hasRoomFor_12 (by decide) ?_
    refine lv_goto (tgt := 17) hx hb dX7_hasRoomFor_13 (by decide) ?_
    exact xr_zret hx hb hr hlocks hE hJ hK hP hS rfl h dX7_hasRoomFor_17
def m_X7_hasRoomFor   (σ : SG) (p0 : Int32) : Option (Int32 × SG) := m_X7_hasRoomFor_0   σ p0
set_option maxHeartbeats 4000000 in
set_option maxRecDepth 100000 in
theorem k_X7_hasRoomFor (l : Launch) {E : EF} (Z : ZT)    (σ : SG) (p0 : Int32) {res : Int32 × SG} (h : m_X7_hasRoomFor   σ p0 = some res) : Met l yX7_hasRoomFor wsX7_hasRoomFor rm_X7_hasRoomFor (va_Pc [.ref (za Z 165), .int p0] (wx E (zD Z) vwCl 211 (za Z) (tX Z) (tysX Z) σ)) (xQi E (zD Z) vwCl 211 (za Z) (tX Z) (tysX Z) res) 0 0 (ws_A 211 (za Z)) := by
  refine Met.ofW (cc := cX7_hasRoomFor) (maxL := 2) (ret := (some .boolean)) (by decide) rfl ?_
  intro p e s m args below meth c s₁ B hml hv
  obtain ⟨rfl, hE, hJ, hP, hK⟩ := hv
  have hl := lv_entry ([.ref (za Z 165), .int p0]) (n := 2) (Nat.le_of_ble_eq_true rfl)
  rw [lg_entry_eq]
  generalize (lg_sl ([.ref (za Z 165), .int p0]) ++ List.replicate (2 - (lg_sl ([.ref (za Z 165), .int p0])).length) Slot.unset).toArray = ls at hl ⊢
  exact kb_X7_hasRoomFor_0 Z    ⟨B.exec, B.bytes, B.returns, B.notSynchronized, hml, findClass_of_methodNamed B.named, atoms_spec (ws := wsX7_hasRoomFor) B.pre, hE, hJ, hK⟩ σ p0 h s.heap [] hP va_S.rf ls hl
/-! TuneSearch$Tape.append(JI)V -/
abbrev rm_X7_append : Room := { frames := 0, cells := 0, slots := 0, locals := 0 }
theorem in_X7_append_X7 : ∀ w ∈ wsX70, w ∈ wsX7_append := by decide +kernel
def m_X7_append_5_s    (c5 : SG → Int64 → Int32 → Option (Unit × SG)) (σ : SG) (l1 : Int64) (l4 : Int32) : Option (Unit × SG) :=
  if l4 < 0 then (some ((), σ)) else (gB (inB (σ.1 165 1) 160) (lS (sI σ 19 (σ.1 165 1).toNatClampNeg ((((l1.toUInt64 >>> ((8 * l4).toInt64.toUInt64 &&& Int64.toUInt64 63)).toInt64).toInt32) &&& 255)) (fun σ5 => lS (sI σ5 165 1 ((σ5.1 165 1) + 1)) (fun σ7 => lS (l4 + (-1)) (fun v9 => c5 σ7 l1 v9)))))
def m_X7_append_5    : Nat → SG → Int64 → Int32 → Option (Unit × SG)
  | 0, _, _, _ => none
  | n + 1, σ, l1, l4 => m_X7_append_5_s    (m_X7_append_5    n) σ l1 l4
set_option maxHeartbeats 4000000 in
set_option maxRecDepth 100000 in
theorem kb_X7_append_5 {p : Program} {l : Launch} {e : Env} {s : State} {m : MethodId} {args : Array Value} {below : List Frame} {meth : Method} {c : Code} {E : EF} (Z : ZT)    (C : cy p s m args meth c cX7_append none 5 RX7 wsX7_append E (zD Z) vwCl 211 (za Z) (tysX Z)) {res : Unit × SG}   : ∀ (n : Nat) (σ : SG) (l1 : Int64) (l4 : Int32) , m_X7_append_5    n σ l1 l4 = some res → ∀ (H : Heap) (locs : List Loc), ws_P (zD Z) vwCl 211 (za Z) (tX Z) σ H → va_S (ws_A 211 (za Z)) s.heap H locs → ∀ (ls : Array Slot), lv_has ls 5 [(0, .ref (za Z 165)), (1, .long l1), (4, .int l4)] → W p l e rm_X7_append s m args below meth c H locs 0 0 (MQ below (xQv E (zD Z) vwCl 211 (za Z) (tX Z) (tysX Z) res) args s 0 0 (ws_A 211 (za Z))) (F0 m 5 ls []) := by
  have C0 := C
  obtain ⟨hx, hb, hr, hlocks, hml, hown, hts, hE, hJ, hK⟩ := C0
  intro n
  induction n with
  | zero =>
    intro σ l1 l4  h
    cases h
  | succ n ih =>
    intro σ l1 l4  h H locs hP hS ls hl
    have hc5 : ∀ (σ : SG) (l1 : Int64) (l4 : Int32) , m_X7_append_5    n σ l1 l4 = some res → ∀ (H : Heap) (locs : List Loc), ws_P (zD Z) vwCl 211 (za Z) (tX Z) σ H → va_S (ws_A 211 (za Z)) s.heap H locs → ∀ (ls : Array Slot), lv_has ls 5 [(0, .ref (za Z 165)), (1, .long l1), (4, .int l4)] → W p l e rm_X7_append s m args below meth c H locs 0 0 (MQ below (xQv E (zD Z) vwCl 211 (za Z) (tX Z) (tysX Z) res) args s 0 0 (ws_A 211 (za Z))) (F0 m 5 ls []) := ih
    have h : m_X7_append_5_s    (m_X7_append_5    n) σ l1 l4 = some res := h
    unfold m_X7_append_5_s at h
    refine lv_iload hx hb dX7_append_5 (lv_at hl 2 rfl) ?_
    refine lv_if_lt (tgt := 47) hx hb dX7_append_7 (by decide) (fun q3 => ?_) (fun q3 => ?_)
    · have h := if_p h q3
      exact xr_vret hx hb hr hlocks hE hJ hK hP hS h dX7_append_47
    · have h := if_n h q3
      refine lv_aload_n hx hb dX7_append_10 rfl (lv_at hl 0 rfl) ?_
      refine wr_get (C := RX7) (T := TX7) (N := 2) hx hb hts (in_X7_append_X7) hown hK hP (k := 165) (by decide) ((tX_Tape Z) _ _ _) rfl 0 (by decide) (hts (.fieldLink RX7 9 "TuneSearch$Tape" "bytes" "[I") (by decide +kernel)) (fun _ h9 => h9) rfl dX7_append_11 ?_
      refine lv_aload_n hx hb dX7_append_14 rfl (lv_at hl 0 rfl) ?_
      refine wr_get (C := RX7) (T := TX7) (N := 2) hx hb hts (in_X7_append_X7) hown hK hP (k := 165) (by decide) ((tX_Tape Z) _ _ _) rfl 1 (by decide) (hts (.fieldLink RX7 13 "TuneSearch$Tape" "count" "I") (by decide +kernel)) (fun _ h9 => h9) rfl dX7_append_15 ?_
      refine lv_lload_n hx hb dX7_append_18 rfl (lv_at hl 1 rfl) ?_
      refine lv_bipush (v := 8) hx hb dX7_append_19 (by decide) ?_
      refine lv_iload hx hb dX7_append_21 (lv_at hl 2 rfl) ?_
      refine lv_imul hx hb dX7_append_23 ?_
      refine lv_lushr hx hb dX7_append_24 rfl ?_
      refine lv_l2i hx hb dX7_append_25 rfl ?_
      refine lv_sipush (v := 255) hx hb dX7_append_26 (by decide) ?_
      refine lv_iand hx hb dX7_append_29 ?_
      obtain ⟨b4, h⟩ := gB_e h
      refine wr_iast hx hb hK hP hJ hS (k := 19) (by decide) 0 (tX_I Z 19 (by decide)) rfl b4 dX7_append_30 (fun H locs hP hS => ?_)
      obtain ⟨σ5, e6, h⟩ := lS_e h
      rw [← e6] at hP
      refine lv_aload_n hx hb dX7_append_31 rfl (lv_at hl 0 rfl) ?_
      refine lv_dup hx hb dX7_append_32 rfl ?_
      refine wr_get (C := RX7) (T := TX7) (N := 2) hx hb hts (in_X7_append_X7) hown hK hP (k := 165) (by decide) ((tX_Tape Z) _ _ _) rfl 1 (by decide) (hts (.fieldLink RX7 13 "TuneSearch$Tape" "count" "I") (by decide +kernel)) (fun _ h9 => h9) rfl dX7_append_33 ?_
      refine lv_iconst (v := 1) hx hb dX7_append_36 (by decide) ?_
      refine lv_iadd hx hb dX7_append_37 ?_
      refine wr_put (C := RX7) (T := TX7) (N := 2) (σ' := sI σ5 165 1 ((σ5.1 165 1) + 1)) (ty := .int) hx hb hts (in_X7_append_X7) tyX7 tyX7_ok nmX7 hown hK hP hJ hS (k := 165) (by decide) ((tX_Tape Z) _ _ _) rfl 1 (by decide) (hts (.fieldLink RX7 13 "TuneSearch$Tape" "count" "I") (by decide +kernel)) (fun _ h9 => h9) rfl (by decide +kernel) rfl rfl (Nat.le_of_ble_eq_true rfl) (ws_pI (tX_Tape Z) rfl) dX7_append_38 (fun H locs hP hS => ?_)
      obtain ⟨σ7, e8, h⟩ := lS_e h
      rw [← e8] at hP
      obtain ⟨v9, e10, h⟩ := lS_e h
      refine lv_iinc (v := v9) (lv' := [(4, .int v9), (0, .ref (za Z 165)), (1, .long l1)]) hx hb dX7_append_41 hl (k := 2) rfl (by rw [e10]; rfl) (by decide) rfl (fun ls hl => ?_)
      refine lv_goto (tgt := 5) hx hb dX7_append_44 (by decide) ?_
      exact hc5 σ7 l1 v9 h H locs hP hS ls (lv_sub hl [1, 2, 0] rfl)
def m_X7_append_0    (σ : SG) (p0 : Int64) (p1 : Int32) : Option (Unit × SG) :=
  lS (p1 - 1) (fun v1 => m_X7_append_5    FV σ p0 v1)
set_option maxHeartbeats 4000000 in
set_option maxRecDepth 100000 in
theorem kb_X7_append_0 {p : Program} {l : Launch} {e : Env} {s : State} {m : MethodId} {args : Array Value} {below : List Frame} {meth : Method} {c : Code} {E : EF} (Z : ZT)    (C : cy p s m args meth c cX7_append none 5 RX7 wsX7_append E (zD Z) vwCl 211 (za Z) (tysX Z)) {res : Unit × SG}   : ∀ (σ : SG) (p0 : Int64) (p1 : Int32) , m_X7_append_0    σ p0 p1 = some res → ∀ (H : Heap) (locs : List Loc), ws_P (zD Z) vwCl 211 (za Z) (tX Z) σ H → va_S (ws_A 211 (za Z)) s.heap H locs → ∀ (ls : Array Slot), lv_has ls 5 [(0, .ref (za Z 165)), (1, .long p0), (3, .int p1)] → W p l e rm_X7_append s m args below meth c H locs 0 0 (MQ below (xQv E (zD Z) vwCl 211 (za Z) (tX Z) (tysX Z) res) args s 0 0 (ws_A 211 (za Z))) (F0 m 0 ls []) := by
  have C0 := C
  obtain ⟨hx, hb, hr, hlocks, hml, hown, hts, hE, hJ, hK⟩ := C0
  intro σ p0 p1  h H locs hP hS ls hl
  unfold m_X7_append_0 at h
  refine lv_iload_n hx hb dX7_append_0 rfl (lv_at hl 2 rfl) ?_
  refine lv_iconst (v := 1) hx hb dX7_append_1 (by decide) ?_
  refine lv_isub hx hb dX7_append_2 ?_
  refine lv_topi (fun v1 e2 => ?_)
  have h := lS_u h e2
  refine lv_istore (lv' := [(4, .int v1), (0, .ref (za Z 165)), (1, .long p0), (3, .int p1)]) hx hb dX7_append_3 hl (by decide) rfl (fun ls hl => ?_)
  exact kb_X7_append_5 Z    C   FV σ p0 v1 h H locs hP hS ls (lv_sub hl [1, 2, 0] rfl)
def m_X7_append   (σ : SG) (p0 : Int64) (p1 : Int32) : Option (Unit × SG) := m_X7_append_0   σ p0 p1
set_option maxHeartbeats 4000000 in
set_option maxRecDepth 100000 in
theorem k_X7_append (l : Launch) {E : EF} (Z : ZT)    (σ : SG) (p0 : Int64) (p1 : Int32) {res : Unit × SG} (h : m_X7_append   σ p0 p1 = some res) : Met l yX7_append wsX7_append rm_X7_append (va_Pc [.ref (za Z 165), .long p0, .int p1] (wx E (zD Z) vwCl 211 (za Z) (tX Z) (tysX Z) σ)) (xQv E (zD Z) vwCl 211 (za Z) (tX Z) (tysX Z) res) 0 0 (ws_A 211 (za Z)) := by
  refine Met.ofW (cc := cX7_append) (maxL := 5) (ret := none) (by decide) rfl ?_
  intro p e s m args below meth c s₁ B hml hv
  obtain ⟨rfl, hE, hJ, hP, hK⟩ := hv
  have hl := lv_entry ([.ref (za Z 165), .long p0, .int p1]) (n := 5) (Nat.le_of_ble_eq_true rfl)
  rw [lg_entry_eq]
  generalize (lg_sl ([.ref (za Z 165), .long p0, .int p1]) ++ List.replicate (5 - (lg_sl ([.ref (za Z 165), .long p0, .int p1])).length) Slot.unset).toArray = ls at hl ⊢
  exact kb_X7_append_0 Z    ⟨B.exec, B.bytes, B.returns, B.notSynchronized, hml, findClass_of_methodNamed B.named, atoms_spec (ws := wsX7_append) B.pre, hE, hJ, hK⟩ σ p0 p1 h s.heap [] hP va_S.rf ls hl
/-! TuneSearch$Tape.hasDigitAt(I)Z -/
abbrev rm_X7_hasDigitAt : Room := { frames := 0, cells := 0, slots := 0, locals := 0 }
theorem in_X7_hasDigitAt_X7 : ∀ w ∈ wsX70, w ∈ wsX7_hasDigitAt := by decide +kernel
def m_X7_hasDigitAt_0    (σ : SG) (p0 : Int32) : Option (Int32 × SG) :=
  if (σ.1 165 1) ≤ p0 then (some (0, σ)) else (gB (inB p0 160) (if (σ.1 19 p0.toNatClampNeg) < 48 then (some (0, σ)) else (gB (inB p0 160) (if 57 < (σ.1 19 p0.toNatClampNeg) then (some (0, σ)) else (some (1, σ))))))
set_option maxHeartbeats 4000000 in
set_option maxRecDepth 100000 in
theorem kb_X7_hasDigitAt_0 {p : Program} {l : Launch} {e : Env} {s : State} {m : MethodId} {args : Array Value} {below : List Frame} {meth : Method} {c : Code} {E : EF} (Z : ZT)    (C : cy p s m args meth c cX7_hasDigitAt (some .boolean) 2 RX7 wsX7_hasDigitAt E (zD Z) vwCl 211 (za Z) (tysX Z)) {res : Int32 × SG}   : ∀ (σ : SG) (p0 : Int32) , m_X7_hasDigitAt_0    σ p0 = some res → ∀ (H : Heap) (locs : List Loc), ws_P (zD Z) vwCl 211 (za Z) (tX Z) σ H → va_S (ws_A 211 (za Z)) s.heap H locs → ∀ (ls : Array Slot), lv_has ls 2 [(0, .ref (za Z 165)), (1, .int p0)] → W p l e rm_X7_hasDigitAt s m args below meth c H locs 0 0 (MQ below (xQi E (zD Z) vwCl 211 (za Z) (tX Z) (tysX Z) res) args s 0 0 (ws_A 211 (za Z))) (F0 m 0 ls []) := by
  have C0 := C
  obtain ⟨hx, hb, hr, hlocks, hml, hown, hts, hE, hJ, hK⟩ := C0
  intro σ p0  h H locs hP hS ls hl
  unfold m_X7_hasDigitAt_0 at h
  refine lv_iload_n hx hb dX7_hasDigitAt_0 rfl (lv_at hl 1 rfl) ?_
  refine lv_aload_n hx hb dX7_hasDigitAt_1 rfl (lv_at hl 0 rfl) ?_
  refine wr_get (C := RX7) (T := TX7) (N := 2) hx hb hts (in_X7_hasDigitAt_X7) hown hK hP (k := 165) (by decide) ((tX_Tape Z) _ _ _) rfl 1 (by decide) (hts (.fieldLink RX7 13 "TuneSearch$Tape" "count" "I") (by decide +kernel)) (fun _ h9 => h9) rfl dX7_hasDigitAt_2 ?_
  refine lv_icmp_ge (tgt := 34) hx hb dX7_hasDigitAt_5 (by decide) (fun q1 => ?_) (fun q1 => ?_)
  · have h := if_p h q1
    refine lv_iconst (v := 0) hx hb dX7_hasDigitAt_34 (by decide) ?_
    exact xr_zret hx hb hr hlocks hE hJ hK hP hS rfl h dX7_hasDigitAt_35
  · have h := if_n h q1
    refine lv_aload_n hx hb dX7_hasDigitAt_8 rfl (lv_at hl 0 rfl) ?_
    refine wr_get (C := RX7) (T := TX7) (N := 2) hx hb hts (in_X7_hasDigitAt_X7) hown hK hP (k := 165) (by decide) ((tX_Tape Z) _ _ _) rfl 0 (by decide) (hts (.fieldLink RX7 9 "TuneSearch$Tape" "bytes" "[I") (by decide +kernel)) (fun _ h9 => h9) rfl dX7_hasDigitAt_9 ?_
    refine lv_iload_n hx hb dX7_hasDigitAt_12 rfl (lv_at hl 1 rfl) ?_
    obtain ⟨b2, h⟩ := gB_e h
    refine wr_iald hx hb hK hP (k := 19) (by decide) 0 ((tX_I Z 19 (by decide)) _ _ _) rfl b2 dX7_hasDigitAt_13 ?_
    refine lv_bipush (v := 48) hx hb dX7_hasDigitAt_14 (by decide) ?_
    refine lv_icmp_lt (tgt := 34) hx hb dX7_hasDigitAt_16 (by decide) (fun q3 => ?_) (fun q3 => ?_)
    · have h := if_p h q3
      refine lv_iconst (v := 0) hx hb dX7_hasDigitAt_34 (by decide) ?_
      exact xr_zret hx hb hr hlocks hE hJ hK hP hS rfl h dX7_hasDigitAt_35
    · have h := if_n h q3
      refine lv_aload_n hx hb dX7_hasDigitAt_19 rfl (lv_at hl 0 rfl) ?_
      refine wr_get (C := RX7) (T := TX7) (N := 2) hx hb hts (in_X7_hasDigitAt_X7) hown hK hP (k := 165) (by decide) ((tX_Tape Z) _ _ _) rfl 0 (by decide) (hts (.fieldLink RX7 9 "TuneSearch$Tape" "bytes" "[I") (by decide +kernel)) (fun _ h9 => h9) rfl dX7_hasDigitAt_20 ?_
      refine lv_iload_n hx hb dX7_hasDigitAt_23 rfl (lv_at hl 1 rfl) ?_
      obtain ⟨b4, h⟩ := gB_e h
      refine wr_iald hx hb hK hP (k := 19) (by decide) 0 ((tX_I Z 19 (by decide)) _ _ _) rfl b4 dX7_hasDigitAt_24 ?_
      refine lv_bipush (v := 57) hx hb dX7_hasDigitAt_25 (by decide) ?_
      refine lv_icmp_gt (tgt := 34) hx hb dX7_hasDigitAt_27 (by decide) (fun q5 => ?_) (fun q5 => ?_)
      · have h := if_p h q5
        refine lv_iconst (v := 0) hx hb dX7_hasDigitAt_34 (by decide) ?_
        exact xr_zret hx hb hr hlocks hE hJ hK hP hS rfl h dX7_hasDigitAt_35
      · have h := if_n h q5
        refine lv_iconst (v := 1) hx hb dX7_hasDigitAt_30 (by decide) ?_
        refine lv_goto (tgt := 35) hx hb dX7_hasDigitAt_31 (by decide) ?_
        exact xr_zret hx hb hr hlocks hE hJ hK hP hS rfl h dX7_hasDigitAt_35
def m_X7_hasDigitAt   (σ : SG) (p0 : Int32) : Option (Int32 × SG) := m_X7_hasDigitAt_0   σ p0
set_option maxHeartbeats 4000000 in
set_option maxRecDepth 100000 in
theorem k_X7_hasDigitAt (l : Launch) {E : EF} (Z : ZT)    (σ : SG) (p0 : Int32) {res : Int32 × SG} (h : m_X7_hasDigitAt   σ p0 = some res) : Met l yX7_hasDigitAt wsX7_hasDigitAt rm_X7_hasDigitAt (va_Pc [.ref (za Z 165), .int p0] (wx E (zD Z) vwCl 211 (za Z) (tX Z) (tysX Z) σ)) (xQi E (zD Z) vwCl 211 (za Z) (tX Z) (tysX Z) res) 0 0 (ws_A 211 (za Z)) := by
  refine Met.ofW (cc := cX7_hasDigitAt) (maxL := 2) (ret := (some .boolean)) (by decide) rfl ?_
  intro p e s m args below meth c s₁ B hml hv
  obtain ⟨rfl, hE, hJ, hP, hK⟩ := hv
  have hl := lv_entry ([.ref (za Z 165), .int p0]) (n := 2) (Nat.le_of_ble_eq_true rfl)
  rw [lg_entry_eq]
  generalize (lg_sl ([.ref (za Z 165), .int p0]) ++ List.replicate (2 - (lg_sl ([.ref (za Z 165), .int p0])).length) Slot.unset).toArray = ls at hl ⊢
  exact kb_X7_hasDigitAt_0 Z    ⟨B.exec, B.bytes, B.returns, B.notSynchronized, hml, findClass_of_methodNamed B.named, atoms_spec (ws := wsX7_hasDigitAt) B.pre, hE, hJ, hK⟩ σ p0 h s.heap [] hP va_S.rf ls hl
/-! TuneSearch$Word.isFull()Z -/
abbrev rm_X9_isFull : Room := { frames := 0, cells := 0, slots := 0, locals := 0 }
theorem in_X9_isFull_X9 : ∀ w ∈ wsX90, w ∈ wsX9_isFull := by decide +kernel
def m_X9_isFull_0  (o : Nat)  (σ : SG)  : Option (Int32 × SG) :=
  if (σ.1 (203 + o) 0) < 50 then (some (0, σ)) else (some (1, σ))
set_option maxHeartbeats 4000000 in
set_option maxRecDepth 100000 in
theorem kb_X9_isFull_0 {p : Program} {l : Launch} {e : Env} {s : State} {m : MethodId} {args : Array Value} {below : List Frame} {meth : Method} {c : Code} {E : EF} (Z : ZT)  (o : Nat) (ho : o < 2) (C : cy p s m args meth c cX9_isFull (some .boolean) 1 RX9 wsX9_isFull E (zD Z) vwCl 211 (za Z) (tysX Z)) {res : Int32 × SG}   : ∀ (σ : SG)  , m_X9_isFull_0  o  σ  = some res → ∀ (H : Heap) (locs : List Loc), ws_P (zD Z) vwCl 211 (za Z) (tX Z) σ H → va_S (ws_A 211 (za Z)) s.heap H locs → ∀ (ls : Array Slot), lv_has ls 1 [(0, .ref (za Z (203 + o)))] → W p l e rm_X9_isFull s m args below meth c H locs 0 0 (MQ below (xQi E (zD Z) vwCl 211 (za Z) (tX Z) (tysX Z) res) args s 0 0 (ws_A 211 (za Z))) (F0 m 0 ls []) := by
  have C0 := C
  obtain ⟨hx, hb, hr, hlocks, hml, hown, hts, hE, hJ, hK⟩ := C0
  intro σ   h H locs hP hS ls hl
  unfold m_X9_isFull_0 at h
  refine lv_aload_n hx hb dX9_isFull_0 rfl (lv_at hl 0 rfl) ?_
  refine wr_get (C := RX9) (T := TX9) (N := 8) hx hb hts (in_X9_isFull_X9) hown hK hP (k := (203 + o)) (by omega) ((tX_Word Z o ho) _ _ _) rfl 0 (by decide) (hts (.fieldLink RX9 25 "TuneSearch$Word" "atoms" "I") (by decide +kernel)) (fun _ h9 => h9) rfl dX9_isFull_1 ?_
  refine lv_bipush (v := 50) hx hb dX9_isFull_4 (by decide) ?_
  refine lv_icmp_lt (tgt := 13) hx hb dX9_isFull_6 (by decide) (fun q1 => ?_) (fun q1 => ?_)
  · have h := if_p h q1
    refine lv_iconst (v := 0) hx hb dX9_isFull_13 (by decide) ?_
    exact xr_zret hx hb hr hlocks hE hJ hK hP hS rfl h dX9_isFull_14
  · have h := if_n h q1
    refine lv_iconst (v := 1) hx hb dX9_isFull_9 (by decide) ?_
    refine lv_goto (tgt := 14) hx hb dX9_isFull_10 (by decide) ?_
    exact xr_zret hx hb hr hlocks hE hJ hK hP hS rfl h dX9_isFull_14
def m_X9_isFull  (o : Nat) (σ : SG)  : Option (Int32 × SG) := m_X9_isFull_0  o σ 
set_option maxHeartbeats 4000000 in
set_option maxRecDepth 100000 in
theorem k_X9_isFull (l : Launch) {E : EF} (Z : ZT)  (o : Nat) (ho : o < 2) (σ : SG)  {res : Int32 × SG} (h : m_X9_isFull  o σ  = some res) : Met l yX9_isFull wsX9_isFull rm_X9_isFull (va_Pc [.ref (za Z (203 + o))] (wx E (zD Z) vwCl 211 (za Z) (tX Z) (tysX Z) σ)) (xQi E (zD Z) vwCl 211 (za Z) (tX Z) (tysX Z) res) 0 0 (ws_A 211 (za Z)) := by
  refine Met.ofW (cc := cX9_isFull) (maxL := 1) (ret := (some .boolean)) (by decide) rfl ?_
  intro p e s m args below meth c s₁ B hml hv
  obtain ⟨rfl, hE, hJ, hP, hK⟩ := hv
  have hl := lv_entry ([.ref (za Z (203 + o))]) (n := 1) (Nat.le_of_ble_eq_true rfl)
  rw [lg_entry_eq]
  generalize (lg_sl ([.ref (za Z (203 + o))]) ++ List.replicate (1 - (lg_sl ([.ref (za Z (203 + o))])).length) Slot.unset).toArray = ls at hl ⊢
  exact kb_X9_isFull_0 Z  o ho ⟨B.exec, B.bytes, B.returns, B.notSynchronized, hml, findClass_of_methodNamed B.named, atoms_spec (ws := wsX9_isFull) B.pre, hE, hJ, hK⟩ σ  h s.heap [] hP va_S.rf ls hl
/-! TuneSearch$Word.addAtom(II)J -/
abbrev rm_X9_addAtom : Room := { frames := 0, cells := 0, slots := 0, locals := 0 }
theorem in_X9_addAtom_X9 : ∀ w ∈ wsX90, w ∈ wsX9_addAtom := by decide +kernel
def m_X9_addAtom_0  (o : Nat)  (σ : SG) (p0 : Int32) (p1 : Int32) : Option (Int64 × SG) :=
  gB (inB (σ.1 (203 + o) 0) 50) (lS (sI σ (21 + o) (σ.1 (203 + o) 0).toNatClampNeg p0) (fun σ2 => gB (inB (σ2.1 (203 + o) 0) 50) (lS (sI σ2 (23 + o) (σ2.1 (203 + o) 0).toNatClampNeg p1) (fun σ5 => gB (inB (σ5.1 (203 + o) 0) 50) (lS (sJ σ5 (144 + o) (σ5.1 (203 + o) 0).toNatClampNeg 0) (fun σ8 => lS (sI σ8 (203 + o) 0 ((σ8.1 (203 + o) 0) + 1)) (fun σ10 => some (1 <<< (((σ10.1 (203 + o) 0) - 1).toInt64 &&& 63), σ10))))))))
set_option maxHeartbeats 4000000 in
set_option maxRecDepth 100000 in
theorem kb_X9_addAtom_0 {p : Program} {l : Launch} {e : Env} {s : State} {m : MethodId} {args : Array Value} {below : List Frame} {meth : Method} {c : Code} {E : EF} (Z : ZT)  (o : Nat) (ho : o < 2) (C : cy p s m args meth c cX9_addAtom (some .long) 3 RX9 wsX9_addAtom E (zD Z) vwCl 211 (za Z) (tysX Z)) {res : Int64 × SG}   : ∀ (σ : SG) (p0 : Int32) (p1 : Int32) , m_X9_addAtom_0  o  σ p0 p1 = some res → ∀ (H : Heap) (locs : List Loc), ws_P (zD Z) vwCl 211 (za Z) (tX Z) σ H → va_S (ws_A 211 (za Z)) s.heap H locs → ∀ (ls : Array Slot), lv_has ls 3 [(0, .ref (za Z (203 + o))), (1, .int p0), (2, .int p1)] → W p l e rm_X9_addAtom s m args below meth c H locs 0 0 (MQ below (xQl E (zD Z) vwCl 211 (za Z) (tX Z) (tysX Z) res) args s 0 0 (ws_A 211 (za Z))) (F0 m 0 ls []) := by
  have C0 := C
  obtain ⟨hx, hb, hr, hlocks, hml, hown, hts, hE, hJ, hK⟩ := C0
  intro σ p0 p1  h H locs hP hS ls hl
  unfold m_X9_addAtom_0 at h
  refine lv_aload_n hx hb dX9_addAtom_0 rfl (lv_at hl 0 rfl) ?_
  refine wr_get (C := RX9) (T := TX9) (N := 8) hx hb hts (in_X9_addAtom_X9) hown hK hP (k := (203 + o)) (by omega) ((tX_Word Z o ho) _ _ _) rfl 3 (by decide) (hts (.fieldLink RX9 11 "TuneSearch$Word" "lows" "[I") (by decide +kernel)) (fun _ h9 => h9) rfl dX9_addAtom_1 ?_
  refine lv_aload_n hx hb dX9_addAtom_4 rfl (lv_at hl 0 rfl) ?_
  refine wr_get (C := RX9) (T := TX9) (N := 8) hx hb hts (in_X9_addAtom_X9) hown hK hP (k := (203 + o)) (by omega) ((tX_Word Z o ho) _ _ _) rfl 0 (by decide) (hts (.fieldLink RX9 25 "TuneSearch$Word" "atoms" "I") (by decide +kernel)) (fun _ h9 => h9) rfl dX9_addAtom_5 ?_
  refine lv_iload_n hx hb dX9_addAtom_8 rfl (lv_at hl 1 rfl) ?_
  obtain ⟨b1, h⟩ := gB_e h
  refine wr_iast hx hb hK hP hJ hS (k := (21 + o)) (by omega) 0 (tX_lows Z o ho) rfl b1 dX9_addAtom_9 (fun H locs hP hS => ?_)
  obtain ⟨σ2, e3, h⟩ := lS_e h
  rw [← e3] at hP
  refine lv_aload_n hx hb dX9_addAtom_10 rfl (lv_at hl 0 rfl) ?_
  refine wr_get (C := RX9) (T := TX9) (N := 8) hx hb hts (in_X9_addAtom_X9) hown hK hP (k := (203 + o)) (by omega) ((tX_Word Z o ho) _ _ _) rfl 4 (by decide) (hts (.fieldLink RX9 15 "TuneSearch$Word" "highs" "[I") (by decide +kernel)) (fun _ h9 => h9) rfl dX9_addAtom_11 ?_
  refine lv_aload_n hx hb dX9_addAtom_14 rfl (lv_at hl 0 rfl) ?_
  refine wr_get (C := RX9) (T := TX9) (N := 8) hx hb hts (in_X9_addAtom_X9) hown hK hP (k := (203 + o)) (by omega) ((tX_Word Z o ho) _ _ _) rfl 0 (by decide) (hts (.fieldLink RX9 25 "TuneSearch$Word" "atoms" "I") (by decide +kernel)) (fun _ h9 => h9) rfl dX9_addAtom_15 ?_
  refine lv_iload_n hx hb dX9_addAtom_18 rfl (lv_at hl 2 rfl) ?_
  obtain ⟨b4, h⟩ := gB_e h
  refine wr_iast hx hb hK hP hJ hS (k := (23 + o)) (by omega) 0 (tX_highs Z o ho) rfl b4 dX9_addAtom_19 (fun H locs hP hS => ?_)
  obtain ⟨σ5, e6, h⟩ := lS_e h
  rw [← e6] at hP
  refine lv_aload_n hx hb dX9_addAtom_20 rfl (lv_at hl 0 rfl) ?_
  refine wr_get (C := RX9) (T := TX9) (N := 8) hx hb hts (in_X9_addAtom_X9) hown hK hP (k := (203 + o)) (by omega) ((tX_Word Z o ho) _ _ _) rfl 5 (by decide) (hts (.fieldLink RX9 18 "TuneSearch$Word" "follow" "[J") (by decide +kernel)) (fun _ h9 => h9) rfl dX9_addAtom_21 ?_
  refine lv_aload_n hx hb dX9_addAtom_24 rfl (lv_at hl 0 rfl) ?_
  refine wr_get (C := RX9) (T := TX9) (N := 8) hx hb hts (in_X9_addAtom_X9) hown hK hP (k := (203 + o)) (by omega) ((tX_Word Z o ho) _ _ _) rfl 0 (by decide) (hts (.fieldLink RX9 25 "TuneSearch$Word" "atoms" "I") (by decide +kernel)) (fun _ h9 => h9) rfl dX9_addAtom_25 ?_
  refine lv_lconst (v := 0) hx hb dX9_addAtom_28 (by decide) ?_
  obtain ⟨b7, h⟩ := gB_e h
  refine wr_last hx hb hK hP hJ hS (k := (144 + o)) (by omega) 1 (tX_follow Z o ho) rfl b7 dX9_addAtom_29 (fun H locs hP hS => ?_)
  obtain ⟨σ8, e9, h⟩ := lS_e h
  rw [← e9] at hP
  refine lv_aload_n hx hb dX9_addAtom_30 rfl (lv_at hl 0 rfl) ?_
  refine lv_dup hx hb dX9_addAtom_31 rfl ?_
  refine wr_get (C := RX9) (T := TX9) (N := 8) hx hb hts (in_X9_addAtom_X9) hown hK hP (k := (203 + o)) (by omega) ((tX_Word Z o ho) _ _ _) rfl 0 (by decide) (hts (.fieldLink RX9 25 "TuneSearch$Word" "atoms" "I") (by decide +kernel)) (fun _ h9 => h9) rfl dX9_addAtom_32 ?_
  refine lv_iconst (v := 1) hx hb dX9_addAtom_35 (by decide) ?_
  refine lv_iadd hx hb dX9_addAtom_36 ?_
  refine wr_put (C := RX9) (T := TX9) (N := 8) (σ' := sI σ8 (203 + o) 0 ((σ8.1 (203 + o) 0) + 1)) (ty := .int) hx hb hts (in_X9_addAtom_X9) tyX9 tyX9_ok nmX9 hown hK hP hJ hS (k := (203 + o)) (by omega) ((tX_Word Z o ho) _ _ _) rfl 0 (by decide) (hts (.fieldLink RX9 25 "TuneSearch$Word" "atoms" "I") (by decide +kernel)) (fun _ h9 => h9) rfl (by decide +kernel) rfl rfl (Nat.le_of_ble_eq_true rfl) (ws_pI (tX_Word Z o ho) rfl) dX9_addAtom_37 (fun H locs hP hS => ?_)
  obtain ⟨σ10, e11, h⟩ := lS_e h
  rw [← e11] at hP
  refine lv_lconst (v := 1) hx hb dX9_addAtom_40 (by decide) ?_
  refine lv_aload_n hx hb dX9_addAtom_41 rfl (lv_at hl 0 rfl) ?_
  refine wr_get (C := RX9) (T := TX9) (N := 8) hx hb hts (in_X9_addAtom_X9) hown hK hP (k := (203 + o)) (by omega) ((tX_Word Z o ho) _ _ _) rfl 0 (by decide) (hts (.fieldLink RX9 25 "TuneSearch$Word" "atoms" "I") (by decide +kernel)) (fun _ h9 => h9) rfl dX9_addAtom_42 ?_
  refine lv_iconst (v := 1) hx hb dX9_addAtom_45 (by decide) ?_
  refine lv_isub hx hb dX9_addAtom_46 ?_
  refine lv_lshl hx hb dX9_addAtom_47 rfl ?_
  exact xr_lret hx hb hr hlocks hE hJ hK hP hS h dX9_addAtom_48
def m_X9_addAtom  (o : Nat) (σ : SG) (p0 : Int32) (p1 : Int32) : Option (Int64 × SG) := m_X9_addAtom_0  o σ p0 p1
set_option maxHeartbeats 4000000 in
set_option maxRecDepth 100000 in
theorem k_X9_addAtom (l : Launch) {E : EF} (Z : ZT)  (o : Nat) (ho : o < 2) (σ : SG) (p0 : Int32) (p1 : Int32) {res : Int64 × SG} (h : m_X9_addAtom  o σ p0 p1 = some res) : Met l yX9_addAtom wsX9_addAtom rm_X9_addAtom (va_Pc [.ref (za Z (203 + o)), .int p0, .int p1] (wx E (zD Z) vwCl 211 (za Z) (tX Z) (tysX Z) σ)) (xQl E (zD Z) vwCl 211 (za Z) (tX Z) (tysX Z) res) 0 0 (ws_A 211 (za Z)) := by
  refine Met.ofW (cc := cX9_addAtom) (maxL := 3) (ret := (some .long)) (by decide) rfl ?_
  intro p e s m args below meth c s₁ B hml hv
  obtain ⟨rfl, hE, hJ, hP, hK⟩ := hv
  have hl := lv_entry ([.ref (za Z (203 + o)), .int p0, .int p1]) (n := 3) (Nat.le_of_ble_eq_true rfl)
  rw [lg_entry_eq]
  generalize (lg_sl ([.ref (za Z (203 + o)), .int p0, .int p1]) ++ List.replicate (3 - (lg_sl ([.ref (za Z (203 + o)), .int p0, .int p1])).length) Slot.unset).toArray = ls at hl ⊢
  exact kb_X9_addAtom_0 Z  o ho ⟨B.exec, B.bytes, B.returns, B.notSynchronized, hml, findClass_of_methodNamed B.named, atoms_spec (ws := wsX9_addAtom) B.pre, hE, hJ, hK⟩ σ p0 p1 h s.heap [] hP va_S.rf ls hl
/-! TuneSearch$Word.atomsFor(I)J -/
abbrev rm_X9_atomsFor : Room := { frames := 0, cells := 0, slots := 0, locals := 0 }
theorem in_X9_atomsFor_X9 : ∀ w ∈ wsX90, w ∈ wsX9_atomsFor := by decide +kernel
def m_X9_atomsFor_43  (o : Nat) (c5 : SG → Int32 → Int64 → Int32 → Option (Int64 × SG)) (σ : SG) (l1 : Int32) (l2 : Int64) (l4 : Int32) : Option (Int64 × SG) :=
  lS (l4 + 1) (fun v8 => c5 σ l1 l2 v8)
set_option maxHeartbeats 4000000 in
set_option maxRecDepth 100000 in
theorem kb_X9_atomsFor_43 {p : Program} {l : Launch} {e : Env} {s : State} {m : MethodId} {args : Array Value} {below : List Frame} {meth : Method} {c : Code} {E : EF} (Z : ZT)  (o : Nat) (ho : o < 2) (C : cy p s m args meth c cX9_atomsFor (some .long) 5 RX9 wsX9_atomsFor E (zD Z) vwCl 211 (za Z) (tysX Z)) {res : Int64 × SG} {c5 : SG → Int32 → Int64 → Int32 → Option (Int64 × SG)} (hc5 : ∀ (σ : SG) (l1 : Int32) (l2 : Int64) (l4 : Int32) , c5 σ l1 l2 l4 = some res → ∀ (H : Heap) (locs : List Loc), ws_P (zD Z) vwCl 211 (za Z) (tX Z) σ H → va_S (ws_A 211 (za Z)) s.heap H locs → ∀ (ls : Array Slot), lv_has ls 5 [(0, .ref (za Z (203 + o))), (1, .int l1), (2, .long l2), (4, .int l4)] → W p l e rm_X9_atomsFor s m args below meth c H locs 0 0 (MQ below (xQl E (zD Z) vwCl 211 (za Z) (tX Z) (tysX Z) res) args s 0 0 (ws_A 211 (za Z))) (F0 m 5 ls [])) : ∀ (σ : SG) (l1 : Int32) (l2 : Int64) (l4 : Int32) , m_X9_atomsFor_43  o c5 σ l1 l2 l4 = some res → ∀ (H : Heap) (locs : List Loc), ws_P (zD Z) vwCl 211 (za Z) (tX Z) σ H → va_S (ws_A 211 (za Z)) s.heap H locs → ∀ (ls : Array Slot), lv_has ls 5 [(0, .ref (za Z (203 + o))), (1, .int l1), (2, .long l2), (4, .int l4)] → W p l e rm_X9_atomsFor s m args below meth c H locs 0 0 (MQ below (xQl E (zD Z) vwCl 211 (za Z) (tX Z) (tysX Z) res) args s 0 0 (ws_A 211 (za Z))) (F0 m 43 ls []) := by
  have C0 := C
  obtain ⟨hx, hb, hr, hlocks, hml, hown, hts, hE, hJ, hK⟩ := C0
  intro σ l1 l2 l4  h H locs hP hS ls hl
  unfold m_X9_atomsFor_43 at h
  obtain ⟨v8, e9, h⟩ := lS_e h
  refine lv_iinc (v := v8) (lv' := [(4, .int v8), (0, .ref (za Z (203 + o))), (1, .int l1), (2, .long l2)]) hx hb dX9_atomsFor_43 hl (k := 3) rfl (by rw [e9]; rfl) (by decide) rfl (fun ls hl => ?_)
  refine lv_goto (tgt := 5) hx hb dX9_atomsFor_46 (by decide) ?_
  exact hc5 σ l1 l2 v8 h H locs hP hS ls (lv_sub hl [1, 2, 3, 0] rfl)
def m_X9_atomsFor_5_s  (o : Nat)  (c5 : SG → Int32 → Int64 → Int32 → Option (Int64 × SG)) (σ : SG) (l1 : Int32) (l2 : Int64) (l4 : Int32) : Option (Int64 × SG) :=
  if (σ.1 (203 + o) 0) ≤ l4 then (some (l2, σ)) else (gB (inB l4 50) (if l1 < (σ.1 (21 + o) l4.toNatClampNeg) then (m_X9_atomsFor_43  o c5 σ l1 l2 l4) else (gB (inB l4 50) (if (σ.1 (23 + o) l4.toNatClampNeg) < l1 then (m_X9_atomsFor_43  o c5 σ l1 l2 l4) else (lS (l2 ||| (1 <<< (l4.toInt64 &&& 63))) (fun v6 => m_X9_atomsFor_43  o c5 σ l1 v6 l4))))))
def m_X9_atomsFor_5  (o : Nat)  : Nat → SG → Int32 → Int64 → Int32 → Option (Int64 × SG)
  | 0, _, _, _, _ => none
  | n + 1, σ, l1, l2, l4 => m_X9_atomsFor_5_s  o  (m_X9_atomsFor_5  o  n) σ l1 l2 l4
set_option maxHeartbeats 4000000 in
set_option maxRecDepth 100000 in
theorem kb_X9_atomsFor_5 {p : Program} {l : Launch} {e : Env} {s : State} {m : MethodId} {args : Array Value} {below : List Frame} {meth : Method} {c : Code} {E : EF} (Z : ZT)  (o : Nat) (ho : o < 2) (C : cy p s m args meth c cX9_atomsFor (some .long) 5 RX9 wsX9_atomsFor E (zD Z) vwCl 211 (za Z) (tysX Z)) {res : Int64 × SG}   : ∀ (n : Nat) (σ : SG) (l1 : Int32) (l2 : Int64) (l4 : Int32) , m_X9_atomsFor_5  o  n σ l1 l2 l4 = some res → ∀ (H : Heap) (locs : List Loc), ws_P (zD Z) vwCl 211 (za Z) (tX Z) σ H → va_S (ws_A 211 (za Z)) s.heap H locs → ∀ (ls : Array Slot), lv_has ls 5 [(0, .ref (za Z (203 + o))), (1, .int l1), (2, .long l2), (4, .int l4)] → W p l e rm_X9_atomsFor s m args below meth c H locs 0 0 (MQ below (xQl E (zD Z) vwCl 211 (za Z) (tX Z) (tysX Z) res) args s 0 0 (ws_A 211 (za Z))) (F0 m 5 ls []) := by
  have C0 := C
  obtain ⟨hx, hb, hr, hlocks, hml, hown, hts, hE, hJ, hK⟩ := C0
  intro n
  induction n with
  | zero =>
    intro σ l1 l2 l4  h
    cases h
  | succ n ih =>
    intro σ l1 l2 l4  h H locs hP hS ls hl
    have hc5 : ∀ (σ : SG) (l1 : Int32) (l2 : Int64) (l4 : Int32) , m_X9_atomsFor_5  o  n σ l1 l2 l4 = some res → ∀ (H : Heap) (locs : List Loc), ws_P (zD Z) vwCl 211 (za Z) (tX Z) σ H → va_S (ws_A 211 (za Z)) s.heap H locs → ∀ (ls : Array Slot), lv_has ls 5 [(0, .ref (za Z (203 + o))), (1, .int l1), (2, .long l2), (4, .int l4)] → W p l e rm_X9_atomsFor s m args below meth c H locs 0 0 (MQ below (xQl E (zD Z) vwCl 211 (za Z) (tX Z) (tysX Z) res) args s 0 0 (ws_A 211 (za Z))) (F0 m 5 ls []) := ih
    have h : m_X9_atomsFor_5_s  o  (m_X9_atomsFor_5  o  n) σ l1 l2 l4 = some res := h
    unfold m_X9_atomsFor_5_s at h
    refine lv_iload hx hb dX9_atomsFor_5 (lv_at hl 3 rfl) ?_
    refine lv_aload_n hx hb dX9_atomsFor_7 rfl (lv_at hl 0 rfl) ?_
    refine wr_get (C := RX9) (T := TX9) (N := 8) hx hb hts (in_X9_atomsFor_X9) hown hK hP (k := (203 + o)) (by omega) ((tX_Word Z o ho) _ _ _) rfl 0 (by decide) (hts (.fieldLink RX9 25 "TuneSearch$Word" "atoms" "I") (by decide +kernel)) (fun _ h9 => h9) rfl dX9_atomsFor_8 ?_
    refine lv_icmp_ge (tgt := 49) hx hb dX9_atomsFor_11 (by decide) (fun q1 => ?_) (fun q1 => ?_)
    · have h := if_p h q1
      refine lv_lload_n hx hb dX9_atomsFor_49 rfl (lv_at hl 2 rfl) ?_
      exact xr_lret hx hb hr hlocks hE hJ hK hP hS h dX9_atomsFor_50
    · have h := if_n h q1
      refine lv_aload_n hx hb dX9_atomsFor_14 rfl (lv_at hl 0 rfl) ?_
      refine wr_get (C := RX9) (T := TX9) (N := 8) hx hb hts (in_X9_atomsFor_X9) hown hK hP (k := (203 + o)) (by omega) ((tX_Word Z o ho) _ _ _) rfl 3 (by decide) (hts (.fieldLink RX9 11 "TuneSearch$Word" "lows" "[I") (by decide +kernel)) (fun _ h9 => h9) rfl dX9_atomsFor_15 ?_
      refine lv_iload hx hb dX9_atomsFor_18 (lv_at hl 3 rfl) ?_
      obtain ⟨b2, h⟩ := gB_e h
      refine wr_iald hx hb hK hP (k := (21 + o)) (by omega) 0 ((tX_lows Z o ho) _ _ _) rfl b2 dX9_atomsFor_20 ?_
      refine lv_iload_n hx hb dX9_atomsFor_21 rfl (lv_at hl 1 rfl) ?_
      refine lv_icmp_gt (tgt := 43) hx hb dX9_atomsFor_22 (by decide) (fun q3 => ?_) (fun q3 => ?_)
      · have h := if_p h q3
        exact kb_X9_atomsFor_43 Z  o ho C  hc5 σ l1 l2 l4 h H locs hP hS ls (lv_sub hl [0, 1, 2, 3] rfl)
      · have h := if_n h q3
        refine lv_iload_n hx hb dX9_atomsFor_25 rfl (lv_at hl 1 rfl) ?_
        refine lv_aload_n hx hb dX9_atomsFor_26 rfl (lv_at hl 0 rfl) ?_
        refine wr_get (C := RX9) (T := TX9) (N := 8) hx hb hts (in_X9_atomsFor_X9) hown hK hP (k := (203 + o)) (by omega) ((tX_Word Z o ho) _ _ _) rfl 4 (by decide) (hts (.fieldLink RX9 15 "TuneSearch$Word" "highs" "[I") (by decide +kernel)) (fun _ h9 => h9) rfl dX9_atomsFor_27 ?_
        refine lv_iload hx hb dX9_atomsFor_30 (lv_at hl 3 rfl) ?_
        obtain ⟨b4, h⟩ := gB_e h
        refine wr_iald hx hb hK hP (k := (23 + o)) (by omega) 0 ((tX_highs Z o ho) _ _ _) rfl b4 dX9_atomsFor_32 ?_
        refine lv_icmp_gt (tgt := 43) hx hb dX9_atomsFor_33 (by decide) (fun q5 => ?_) (fun q5 => ?_)
        · have h := if_p h q5
          exact kb_X9_atomsFor_43 Z  o ho C  hc5 σ l1 l2 l4 h H locs hP hS ls (lv_sub hl [0, 1, 2, 3] rfl)
        · have h := if_n h q5
          refine lv_lload_n hx hb dX9_atomsFor_36 rfl (lv_at hl 2 rfl) ?_
          refine lv_lconst (v := 1) hx hb dX9_atomsFor_37 (by decide) ?_
          refine lv_iload hx hb dX9_atomsFor_38 (lv_at hl 3 rfl) ?_
          refine lv_lshl hx hb dX9_atomsFor_40 rfl ?_
          refine lv_lor hx hb dX9_atomsFor_41 ?_
          refine lv_topl (fun v6 e7 => ?_)
          have h := lS_u h e7
          refine lv_lstore_n (lv' := [(2, .long v6), (0, .ref (za Z (203 + o))), (1, .int l1), (4, .int l4)]) hx hb dX9_atomsFor_42 rfl hl (by decide) rfl (fun ls hl => ?_)
          exact kb_X9_atomsFor_43 Z  o ho C  hc5 σ l1 v6 l4 h H locs hP hS ls (lv_sub hl [1, 2, 0, 3] rfl)
def m_X9_atomsFor_0  (o : Nat)  (σ : SG) (p0 : Int32) : Option (Int64 × SG) :=
  m_X9_atomsFor_5  o  FV σ p0 0 0
set_option maxHeartbeats 4000000 in
set_option maxRecDepth 100000 in
theorem kb_X9_atomsFor_0 {p : Program} {l : Launch} {e : Env} {s : State} {m : MethodId} {args : Array Value} {below : List Frame} {meth : Method} {c : Code} {E : EF} (Z : ZT)  (o : Nat) (ho : o < 2) (C : cy p s m args meth c cX9_atomsFor (some .long) 5 RX9 wsX9_atomsFor E (zD Z) vwCl 211 (za Z) (tysX Z)) {res : Int64 × SG}   : ∀ (σ : SG) (p0 : Int32) , m_X9_atomsFor_0  o  σ p0 = some res → ∀ (H : Heap) (locs : List Loc), ws_P (zD Z) vwCl 211 (za Z) (tX Z) σ H → va_S (ws_A 211 (za Z)) s.heap H locs → ∀ (ls : Array Slot), lv_has ls 5 [(0, .ref (za Z (203 + o))), (1, .int p0)] → W p l e rm_X9_atomsFor s m args below meth c H locs 0 0 (MQ below (xQl E (zD Z) vwCl 211 (za Z) (tX Z) (tysX Z) res) args s 0 0 (ws_A 211 (za Z))) (F0 m 0 ls []) := by
  have C0 := C
  obtain ⟨hx, hb, hr, hlocks, hml, hown, hts, hE, hJ, hK⟩ := C0
  intro σ p0  h H locs hP hS ls hl
  unfold m_X9_atomsFor_0 at h
  refine lv_lconst (v := 0) hx hb dX9_atomsFor_0 (by decide) ?_
  refine lv_lstore_n (lv' := [(2, .long 0), (0, .ref (za Z (203 + o))), (1, .int p0)]) hx hb dX9_atomsFor_1 rfl hl (by decide) rfl (fun ls hl => ?_)
  refine lv_iconst (v := 0) hx hb dX9_atomsFor_2 (by decide) ?_
  refine lv_istore (lv' := [(4, .int 0), (2, .long 0), (0, .ref (za Z (203 + o))), (1, .int p0)]) hx hb dX9_atomsFor_3 hl (by decide) rfl (fun ls hl => ?_)
  exact kb_X9_atomsFor_5 Z  o ho C   FV σ p0 0 0 h H locs hP hS ls (lv_sub hl [2, 3, 1, 0] rfl)
def m_X9_atomsFor  (o : Nat) (σ : SG) (p0 : Int32) : Option (Int64 × SG) := m_X9_atomsFor_0  o σ p0
set_option maxHeartbeats 4000000 in
set_option maxRecDepth 100000 in
theorem k_X9_atomsFor (l : Launch) {E : EF} (Z : ZT)  (o : Nat) (ho : o < 2) (σ : SG) (p0 : Int32) {res : Int64 × SG} (h : m_X9_atomsFor  o σ p0 = some res) : Met l yX9_atomsFor wsX9_atomsFor rm_X9_atomsFor (va_Pc [.ref (za Z (203 + o)), .int p0] (wx E (zD Z) vwCl 211 (za Z) (tX Z) (tysX Z) σ)) (xQl E (zD Z) vwCl 211 (za Z) (tX Z) (tysX Z) res) 0 0 (ws_A 211 (za Z)) := by
  refine Met.ofW (cc := cX9_atomsFor) (maxL := 5) (ret := (some .long)) (by decide) rfl ?_
  intro p e s m args below meth c s₁ B hml hv
  obtain ⟨rfl, hE, hJ, hP, hK⟩ := hv
  have hl := lv_entry ([.ref (za Z (203 + o)), .int p0]) (n := 5) (Nat.le_of_ble_eq_true rfl)
  rw [lg_entry_eq]
  generalize (lg_sl ([.ref (za Z (203 + o)), .int p0]) ++ List.replicate (5 - (lg_sl ([.ref (za Z (203 + o)), .int p0])).length) Slot.unset).toArray = ls at hl ⊢
  exact kb_X9_atomsFor_0 Z  o ho ⟨B.exec, B.bytes, B.returns, B.notSynchronized, hml, findClass_of_methodNamed B.named, atoms_spec (ws := wsX9_atomsFor) B.pre, hE, hJ, hK⟩ σ p0 h s.heap [] hP va_S.rf ls hl
/-! TuneSearch$Word.hold(LTuneSearch$Signs;)V -/
abbrev rm_X9_hold : Room := { frames := 1, cells := 0, slots := 0, locals := 24 }
theorem in_X9_hold_X6 : ∀ w ∈ wsX60, w ∈ wsX9_hold := by decide +kernel
theorem in_X9_hold_X9 : ∀ w ∈ wsX90, w ∈ wsX9_hold := by decide +kernel
def m_X9_hold_10_s  (o : Nat)  (c10 : SG → Int32 → Option (Unit × SG)) (σ : SG) (l2 : Int32) : Option (Unit × SG) :=
  if (σ.1 (203 + o) 7) ≤ l2 then (some ((), σ)) else (gB (inB l2 24) (bi (m_X9_atomsFor o σ (σ.1 20 l2.toNatClampNeg)) (fun v5 σ6 => gB (inB l2 24) (lS (sJ σ6 (146 + o) l2.toNatClampNeg v5) (fun σ9 => lS (l2 + 1) (fun v11 => c10 σ9 v11))))))
def m_X9_hold_10  (o : Nat)  : Nat → SG → Int32 → Option (Unit × SG)
  | 0, _, _ => none
  | n + 1, σ, l2 => m_X9_hold_10_s  o  (m_X9_hold_10  o  n) σ l2
set_option maxHeartbeats 4000000 in
set_option maxRecDepth 100000 in
theorem kb_X9_hold_10 {p : Program} {l : Launch} {e : Env} {s : State} {m : MethodId} {args : Array Value} {below : List Frame} {meth : Method} {c : Code} {E : EF} (Z : ZT)  (o : Nat) (ho : o < 2) (C : cy p s m args meth c cX9_hold none 3 RX9 wsX9_hold E (zD Z) vwCl 211 (za Z) (tysX Z)) {res : Unit × SG}   : ∀ (n : Nat) (σ : SG) (l2 : Int32) , m_X9_hold_10  o  n σ l2 = some res → ∀ (H : Heap) (locs : List Loc), ws_P (zD Z) vwCl 211 (za Z) (tX Z) σ H → va_S (ws_A 211 (za Z)) s.heap H locs → ∀ (ls : Array Slot), lv_has ls 3 [(0, .ref (za Z (203 + o))), (1, .ref (za Z 205)), (2, .int l2)] → W p l e rm_X9_hold s m args below meth c H locs 0 0 (MQ below (xQv E (zD Z) vwCl 211 (za Z) (tX Z) (tysX Z) res) args s 0 0 (ws_A 211 (za Z))) (F0 m 10 ls []) := by
  have C0 := C
  obtain ⟨hx, hb, hr, hlocks, hml, hown, hts, hE, hJ, hK⟩ := C0
  intro n
  induction n with
  | zero =>
    intro σ l2  h
    cases h
  | succ n ih =>
    intro σ l2  h H locs hP hS ls hl
    have hc10 : ∀ (σ : SG) (l2 : Int32) , m_X9_hold_10  o  n σ l2 = some res → ∀ (H : Heap) (locs : List Loc), ws_P (zD Z) vwCl 211 (za Z) (tX Z) σ H → va_S (ws_A 211 (za Z)) s.heap H locs → ∀ (ls : Array Slot), lv_has ls 3 [(0, .ref (za Z (203 + o))), (1, .ref (za Z 205)), (2, .int l2)] → W p l e rm_X9_hold s m args below meth c H locs 0 0 (MQ below (xQv E (zD Z) vwCl 211 (za Z) (tX Z) (tysX Z) res) args s 0 0 (ws_A 211 (za Z))) (F0 m 10 ls []) := ih
    have h : m_X9_hold_10_s  o  (m_X9_hold_10  o  n) σ l2 = some res := h
    unfold m_X9_hold_10_s at h
    refine lv_iload_n hx hb dX9_hold_10 rfl (lv_at hl 2 rfl) ?_
    refine lv_aload_n hx hb dX9_hold_11 rfl (lv_at hl 0 rfl) ?_
    refine wr_get (C := RX9) (T := TX9) (N := 8) hx hb hts (in_X9_hold_X9) hown hK hP (k := (203 + o)) (by omega) ((tX_Word Z o ho) _ _ _) rfl 7 (by decide) (hts (.fieldLink RX9 34 "TuneSearch$Word" "signCount" "I") (by decide +kernel)) (fun _ h9 => h9) rfl dX9_hold_12 ?_
    refine lv_icmp_ge (tgt := 40) hx hb dX9_hold_15 (by decide) (fun q3 => ?_) (fun q3 => ?_)
    · have h := if_p h q3
      exact xr_vret hx hb hr hlocks hE hJ hK hP hS h dX9_hold_40
    · have h := if_n h q3
      refine lv_aload_n hx hb dX9_hold_18 rfl (lv_at hl 0 rfl) ?_
      refine wr_get (C := RX9) (T := TX9) (N := 8) hx hb hts (in_X9_hold_X9) hown hK hP (k := (203 + o)) (by omega) ((tX_Word Z o ho) _ _ _) rfl 6 (by decide) (hts (.fieldLink RX9 22 "TuneSearch$Word" "fitting" "[J") (by decide +kernel)) (fun _ h9 => h9) rfl dX9_hold_19 ?_
      refine lv_iload_n hx hb dX9_hold_22 rfl (lv_at hl 2 rfl) ?_
      refine lv_aload_n hx hb dX9_hold_23 rfl (lv_at hl 0 rfl) ?_
      refine lv_aload_n hx hb dX9_hold_24 rfl (lv_at hl 1 rfl) ?_
      refine wr_get (C := RX6) (T := TX6) (N := 2) hx hb hts (in_X9_hold_X6) hown hK hP (k := 205) (by decide) ((tX_Signs Z) _ _ _) rfl 0 (by decide) (hts (.fieldLink RX9 37 "TuneSearch$Signs" "row" "[I") (by decide +kernel)) (fun _ h9 => h9) rfl dX9_hold_25 ?_
      refine lv_iload_n hx hb dX9_hold_28 rfl (lv_at hl 2 rfl) ?_
      obtain ⟨b4, h⟩ := gB_e h
      refine wr_iald hx hb hK hP (k := 20) (by decide) 0 ((tX_I Z 20 (by decide)) _ _ _) rfl b4 dX9_hold_29 ?_
      obtain ⟨v5, σ6, hm7, h⟩ := bi_e h
      refine xr_calll (res := (v5, σ6)) (va_runV (As := [.int (σ.1 20 l2.toNatClampNeg)]) (rest := [.int l2, .ref (za Z (146 + o))]) ⟨hx, hb, hml, hown, hts⟩ (k_X9_atomsFor l Z o ho σ (σ.1 20 l2.toNatClampNeg) hm7) (cwV 1 hts gX9_hold_X9_atomsFor rfl rfl rfl (by decide +kernel) ⟨Nat.le_of_ble_eq_true rfl, Nat.le_of_ble_eq_true rfl⟩) ⟨wx_blind, wr_recv hK hP (k := (203 + o)) (by omega) ((tX_Word Z o ho) _ _ _) rfl, fun U hU hW => ⟨rfl, wx_at hE hJ hP hK hS hU hW⟩⟩ rfl rfl hl.1 rfl (lv_room (Nat.le_of_ble_eq_true rfl)) dX9_hold_30 ⟨Nat.le_of_ble_eq_true rfl, Nat.le_of_ble_eq_true rfl⟩) hS (fun H locs hP hS => ?_)
      have hP : ws_P (zD Z) vwCl 211 (za Z) (tX Z) σ6 H := hP
      obtain ⟨b8, h⟩ := gB_e h
      refine wr_last hx hb hK hP hJ hS (k := (146 + o)) (by omega) 1 (tX_fitting Z o ho) rfl b8 dX9_hold_33 (fun H locs hP hS => ?_)
      obtain ⟨σ9, e10, h⟩ := lS_e h
      rw [← e10] at hP
      obtain ⟨v11, e12, h⟩ := lS_e h
      refine lv_iinc (v := v11) (lv' := [(2, .int v11), (0, .ref (za Z (203 + o))), (1, .ref (za Z 205))]) hx hb dX9_hold_34 hl (k := 2) rfl (by rw [e12]; rfl) (by decide) rfl (fun ls hl => ?_)
      refine lv_goto (tgt := 10) hx hb dX9_hold_37 (by decide) ?_
      exact hc10 σ9 v11 h H locs hP hS ls (lv_sub hl [1, 2, 0] rfl)
def m_X9_hold_0  (o : Nat)  (σ : SG)  : Option (Unit × SG) :=
  lS (sI σ (203 + o) 7 (σ.1 205 1)) (fun σ1 => m_X9_hold_10  o  FV σ1 0)
set_option maxHeartbeats 4000000 in
set_option maxRecDepth 100000 in
theorem kb_X9_hold_0 {p : Program} {l : Launch} {e : Env} {s : State} {m : MethodId} {args : Array Value} {below : List Frame} {meth : Method} {c : Code} {E : EF} (Z : ZT)  (o : Nat) (ho : o < 2) (C : cy p s m args meth c cX9_hold none 3 RX9 wsX9_hold E (zD Z) vwCl 211 (za Z) (tysX Z)) {res : Unit × SG}   : ∀ (σ : SG)  , m_X9_hold_0  o  σ  = some res → ∀ (H : Heap) (locs : List Loc), ws_P (zD Z) vwCl 211 (za Z) (tX Z) σ H → va_S (ws_A 211 (za Z)) s.heap H locs → ∀ (ls : Array Slot), lv_has ls 3 [(0, .ref (za Z (203 + o))), (1, .ref (za Z 205))] → W p l e rm_X9_hold s m args below meth c H locs 0 0 (MQ below (xQv E (zD Z) vwCl 211 (za Z) (tX Z) (tysX Z) res) args s 0 0 (ws_A 211 (za Z))) (F0 m 0 ls []) := by
  have C0 := C
  obtain ⟨hx, hb, hr, hlocks, hml, hown, hts, hE, hJ, hK⟩ := C0
  intro σ   h H locs hP hS ls hl
  unfold m_X9_hold_0 at h
  refine lv_aload_n hx hb dX9_hold_0 rfl (lv_at hl 0 rfl) ?_
  refine lv_aload_n hx hb dX9_hold_1 rfl (lv_at hl 1 rfl) ?_
  refine wr_get (C := RX6) (T := TX6) (N := 2) hx hb hts (in_X9_hold_X6) hown hK hP (k := 205) (by decide) ((tX_Signs Z) _ _ _) rfl 1 (by decide) (hts (.fieldLink RX9 29 "TuneSearch$Signs" "count" "I") (by decide +kernel)) (fun _ h9 => h9) rfl dX9_hold_2 ?_
  refine wr_put (C := RX9) (T := TX9) (N := 8) (σ' := sI σ (203 + o) 7 (σ.1 205 1)) (ty := .int) hx hb hts (in_X9_hold_X9) tyX9 tyX9_ok nmX9 hown hK hP hJ hS (k := (203 + o)) (by omega) ((tX_Word Z o ho) _ _ _) rfl 7 (by decide) (hts (.fieldLink RX9 34 "TuneSearch$Word" "signCount" "I") (by decide +kernel)) (fun _ h9 => h9) rfl (by decide +kernel) rfl rfl (Nat.le_of_ble_eq_true rfl) (ws_pI (tX_Word Z o ho) rfl) dX9_hold_5 (fun H locs hP hS => ?_)
  obtain ⟨σ1, e2, h⟩ := lS_e h
  rw [← e2] at hP
  refine lv_iconst (v := 0) hx hb dX9_hold_8 (by decide) ?_
  refine lv_istore_n (lv' := [(2, .int 0), (0, .ref (za Z (203 + o))), (1, .ref (za Z 205))]) hx hb dX9_hold_9 rfl hl (by decide) rfl (fun ls hl => ?_)
  exact kb_X9_hold_10 Z  o ho C   FV σ1 0 h H locs hP hS ls (lv_sub hl [1, 2, 0] rfl)
def m_X9_hold  (o : Nat) (σ : SG)  : Option (Unit × SG) := m_X9_hold_0  o σ 
set_option maxHeartbeats 4000000 in
set_option maxRecDepth 100000 in
theorem k_X9_hold (l : Launch) {E : EF} (Z : ZT)  (o : Nat) (ho : o < 2) (σ : SG)  {res : Unit × SG} (h : m_X9_hold  o σ  = some res) : Met l yX9_hold wsX9_hold rm_X9_hold (va_Pc [.ref (za Z (203 + o)), .ref (za Z 205)] (wx E (zD Z) vwCl 211 (za Z) (tX Z) (tysX Z) σ)) (xQv E (zD Z) vwCl 211 (za Z) (tX Z) (tysX Z) res) 0 0 (ws_A 211 (za Z)) := by
  refine Met.ofW (cc := cX9_hold) (maxL := 3) (ret := none) (by decide) rfl ?_
  intro p e s m args below meth c s₁ B hml hv
  obtain ⟨rfl, hE, hJ, hP, hK⟩ := hv
  have hl := lv_entry ([.ref (za Z (203 + o)), .ref (za Z 205)]) (n := 3) (Nat.le_of_ble_eq_true rfl)
  rw [lg_entry_eq]
  generalize (lg_sl ([.ref (za Z (203 + o)), .ref (za Z 205)]) ++ List.replicate (3 - (lg_sl ([.ref (za Z (203 + o)), .ref (za Z 205)])).length) Slot.unset).toArray = ls at hl ⊢
  exact kb_X9_hold_0 Z  o ho ⟨B.exec, B.bytes, B.returns, B.notSynchronized, hml, findClass_of_methodNamed B.named, atoms_spec (ws := wsX9_hold) B.pre, hE, hJ, hK⟩ σ  h s.heap [] hP va_S.rf ls hl
/-! TuneSearch$Word.followers(J)J -/
abbrev rm_X9_followers : Room := { frames := 0, cells := 0, slots := 0, locals := 0 }
theorem in_X9_followers_X9 : ∀ w ∈ wsX90, w ∈ wsX9_followers := by decide +kernel
def m_X9_followers_44  (o : Nat) (c5 : SG → Int64 → Int64 → Int32 → Option (Int64 × SG)) (σ : SG) (l1 : Int64) (l3 : Int64) (l5 : Int32) : Option (Int64 × SG) :=
  lS (l5 + 1) (fun v7 => c5 σ l1 l3 v7)
set_option maxHeartbeats 4000000 in
set_option maxRecDepth 100000 in
theorem kb_X9_followers_44 {p : Program} {l : Launch} {e : Env} {s : State} {m : MethodId} {args : Array Value} {below : List Frame} {meth : Method} {c : Code} {E : EF} (Z : ZT)  (o : Nat) (ho : o < 2) (C : cy p s m args meth c cX9_followers (some .long) 6 RX9 wsX9_followers E (zD Z) vwCl 211 (za Z) (tysX Z)) {res : Int64 × SG} {c5 : SG → Int64 → Int64 → Int32 → Option (Int64 × SG)} (hc5 : ∀ (σ : SG) (l1 : Int64) (l3 : Int64) (l5 : Int32) , c5 σ l1 l3 l5 = some res → ∀ (H : Heap) (locs : List Loc), ws_P (zD Z) vwCl 211 (za Z) (tX Z) σ H → va_S (ws_A 211 (za Z)) s.heap H locs → ∀ (ls : Array Slot), lv_has ls 6 [(0, .ref (za Z (203 + o))), (1, .long l1), (3, .long l3), (5, .int l5)] → W p l e rm_X9_followers s m args below meth c H locs 0 0 (MQ below (xQl E (zD Z) vwCl 211 (za Z) (tX Z) (tysX Z) res) args s 0 0 (ws_A 211 (za Z))) (F0 m 5 ls [])) : ∀ (σ : SG) (l1 : Int64) (l3 : Int64) (l5 : Int32) , m_X9_followers_44  o c5 σ l1 l3 l5 = some res → ∀ (H : Heap) (locs : List Loc), ws_P (zD Z) vwCl 211 (za Z) (tX Z) σ H → va_S (ws_A 211 (za Z)) s.heap H locs → ∀ (ls : Array Slot), lv_has ls 6 [(0, .ref (za Z (203 + o))), (1, .long l1), (3, .long l3), (5, .int l5)] → W p l e rm_X9_followers s m args below meth c H locs 0 0 (MQ below (xQl E (zD Z) vwCl 211 (za Z) (tX Z) (tysX Z) res) args s 0 0 (ws_A 211 (za Z))) (F0 m 44 ls []) := by
  have C0 := C
  obtain ⟨hx, hb, hr, hlocks, hml, hown, hts, hE, hJ, hK⟩ := C0
  intro σ l1 l3 l5  h H locs hP hS ls hl
  unfold m_X9_followers_44 at h
  obtain ⟨v7, e8, h⟩ := lS_e h
  refine lv_iinc (v := v7) (lv' := [(5, .int v7), (0, .ref (za Z (203 + o))), (1, .long l1), (3, .long l3)]) hx hb dX9_followers_44 hl (k := 3) rfl (by rw [e8]; rfl) (by decide) rfl (fun ls hl => ?_)
  refine lv_goto (tgt := 5) hx hb dX9_followers_47 (by decide) ?_
  exact hc5 σ l1 l3 v7 h H locs hP hS ls (lv_sub hl [1, 2, 3, 0] rfl)
def m_X9_followers_5_s  (o : Nat)  (c5 : SG → Int64 → Int64 → Int32 → Option (Int64 × SG)) (σ : SG) (l1 : Int64) (l3 : Int64) (l5 : Int32) : Option (Int64 × SG) :=
  if (σ.1 (203 + o) 0) ≤ l5 then (some (l3, σ)) else (if (lg_cmp ((l1.toUInt64 >>> (l5.toInt64.toUInt64 &&& Int64.toUInt64 63)).toInt64) 0) = 0 then (some (l3, σ)) else (if (lg_cmp (((l1.toUInt64 >>> (l5.toInt64.toUInt64 &&& Int64.toUInt64 63)).toInt64) &&& 1) 0) = 0 then (m_X9_followers_44  o c5 σ l1 l3 l5) else (gB (inB l5 50) (lS (l3 ||| (σ.2.1 (144 + o) l5.toNatClampNeg)) (fun v5 => m_X9_followers_44  o c5 σ l1 v5 l5)))))
def m_X9_followers_5  (o : Nat)  : Nat → SG → Int64 → Int64 → Int32 → Option (Int64 × SG)
  | 0, _, _, _, _ => none
  | n + 1, σ, l1, l3, l5 => m_X9_followers_5_s  o  (m_X9_followers_5  o  n) σ l1 l3 l5
set_option maxHeartbeats 4000000 in
set_option maxRecDepth 100000 in
theorem kb_X9_followers_5 {p : Program} {l : Launch} {e : Env} {s : State} {m : MethodId} {args : Array Value} {below : List Frame} {meth : Method} {c : Code} {E : EF} (Z : ZT)  (o : Nat) (ho : o < 2) (C : cy p s m args meth c cX9_followers (some .long) 6 RX9 wsX9_followers E (zD Z) vwCl 211 (za Z) (tysX Z)) {res : Int64 × SG}   : ∀ (n : Nat) (σ : SG) (l1 : Int64) (l3 : Int64) (l5 : Int32) , m_X9_followers_5  o  n σ l1 l3 l5 = some res → ∀ (H : Heap) (locs : List Loc), ws_P (zD Z) vwCl 211 (za Z) (tX Z) σ H → va_S (ws_A 211 (za Z)) s.heap H locs → ∀ (ls : Array Slot), lv_has ls 6 [(0, .ref (za Z (203 + o))), (1, .long l1), (3, .long l3), (5, .int l5)] → W p l e rm_X9_followers s m args below meth c H locs 0 0 (MQ below (xQl E (zD Z) vwCl 211 (za Z) (tX Z) (tysX Z) res) args s 0 0 (ws_A 211 (za Z))) (F0 m 5 ls []) := by
  have C0 := C
  obtain ⟨hx, hb, hr, hlocks, hml, hown, hts, hE, hJ, hK⟩ := C0
  intro n
  induction n with
  | zero =>
    intro σ l1 l3 l5  h
    cases h
  | succ n ih =>
    intro σ l1 l3 l5  h H locs hP hS ls hl
    have hc5 : ∀ (σ : SG) (l1 : Int64) (l3 : Int64) (l5 : Int32) , m_X9_followers_5  o  n σ l1 l3 l5 = some res → ∀ (H : Heap) (locs : List Loc), ws_P (zD Z) vwCl 211 (za Z) (tX Z) σ H → va_S (ws_A 211 (za Z)) s.heap H locs → ∀ (ls : Array Slot), lv_has ls 6 [(0, .ref (za Z (203 + o))), (1, .long l1), (3, .long l3), (5, .int l5)] → W p l e rm_X9_followers s m args below meth c H locs 0 0 (MQ below (xQl E (zD Z) vwCl 211 (za Z) (tX Z) (tysX Z) res) args s 0 0 (ws_A 211 (za Z))) (F0 m 5 ls []) := ih
    have h : m_X9_followers_5_s  o  (m_X9_followers_5  o  n) σ l1 l3 l5 = some res := h
    unfold m_X9_followers_5_s at h
    refine lv_iload hx hb dX9_followers_5 (lv_at hl 3 rfl) ?_
    refine lv_aload_n hx hb dX9_followers_7 rfl (lv_at hl 0 rfl) ?_
    refine wr_get (C := RX9) (T := TX9) (N := 8) hx hb hts (in_X9_followers_X9) hown hK hP (k := (203 + o)) (by omega) ((tX_Word Z o ho) _ _ _) rfl 0 (by decide) (hts (.fieldLink RX9 25 "TuneSearch$Word" "atoms" "I") (by decide +kernel)) (fun _ h9 => h9) rfl dX9_followers_8 ?_
    refine lv_icmp_ge (tgt := 50) hx hb dX9_followers_11 (by decide) (fun q1 => ?_) (fun q1 => ?_)
    · have h := if_p h q1
      refine lv_lload_n hx hb dX9_followers_50 rfl (lv_at hl 2 rfl) ?_
      exact xr_lret hx hb hr hlocks hE hJ hK hP hS h dX9_followers_51
    · have h := if_n h q1
      refine lv_lload_n hx hb dX9_followers_14 rfl (lv_at hl 1 rfl) ?_
      refine lv_iload hx hb dX9_followers_15 (lv_at hl 3 rfl) ?_
      refine lv_lushr hx hb dX9_followers_17 rfl ?_
      refine lv_lconst (v := 0) hx hb dX9_followers_18 (by decide) ?_
      refine W.lcmp hx hb dX9_followers_19 ?_
      refine lv_if_eq (tgt := 50) hx hb dX9_followers_20 (by decide) (fun q2 => ?_) (fun q2 => ?_)
      · have h := if_p h q2
        refine lv_lload_n hx hb dX9_followers_50 rfl (lv_at hl 2 rfl) ?_
        exact xr_lret hx hb hr hlocks hE hJ hK hP hS h dX9_followers_51
      · have h := if_n h q2
        refine lv_lload_n hx hb dX9_followers_23 rfl (lv_at hl 1 rfl) ?_
        refine lv_iload hx hb dX9_followers_24 (lv_at hl 3 rfl) ?_
        refine lv_lushr hx hb dX9_followers_26 rfl ?_
        refine lv_lconst (v := 1) hx hb dX9_followers_27 (by decide) ?_
        refine lv_land hx hb dX9_followers_28 ?_
        refine lv_lconst (v := 0) hx hb dX9_followers_29 (by decide) ?_
        refine W.lcmp hx hb dX9_followers_30 ?_
        refine lv_if_eq (tgt := 44) hx hb dX9_followers_31 (by decide) (fun q3 => ?_) (fun q3 => ?_)
        · have h := if_p h q3
          exact kb_X9_followers_44 Z  o ho C  hc5 σ l1 l3 l5 h H locs hP hS ls (lv_sub hl [0, 1, 2, 3] rfl)
        · have h := if_n h q3
          refine lv_lload_n hx hb dX9_followers_34 rfl (lv_at hl 2 rfl) ?_
          refine lv_aload_n hx hb dX9_followers_35 rfl (lv_at hl 0 rfl) ?_
          refine wr_get (C := RX9) (T := TX9) (N := 8) hx hb hts (in_X9_followers_X9) hown hK hP (k := (203 + o)) (by omega) ((tX_Word Z o ho) _ _ _) rfl 5 (by decide) (hts (.fieldLink RX9 18 "TuneSearch$Word" "follow" "[J") (by decide +kernel)) (fun _ h9 => h9) rfl dX9_followers_36 ?_
          refine lv_iload hx hb dX9_followers_39 (lv_at hl 3 rfl) ?_
          obtain ⟨b4, h⟩ := gB_e h
          refine wr_lald hx hb hK hP (k := (144 + o)) (by omega) 1 ((tX_follow Z o ho) _ _ _) rfl b4 dX9_followers_41 ?_
          refine lv_lor hx hb dX9_followers_42 ?_
          refine lv_topl (fun v5 e6 => ?_)
          have h := lS_u h e6
          refine lv_lstore_n (lv' := [(3, .long v5), (0, .ref (za Z (203 + o))), (1, .long l1), (5, .int l5)]) hx hb dX9_followers_43 rfl hl (by decide) rfl (fun ls hl => ?_)
          exact kb_X9_followers_44 Z  o ho C  hc5 σ l1 v5 l5 h H locs hP hS ls (lv_sub hl [1, 2, 0, 3] rfl)
def m_X9_followers_0  (o : Nat)  (σ : SG) (p0 : Int64) : Option (Int64 × SG) :=
  m_X9_followers_5  o  FV σ p0 0 0
set_option maxHeartbeats 4000000 in
set_option maxRecDepth 100000 in
theorem kb_X9_followers_0 {p : Program} {l : Launch} {e : Env} {s : State} {m : MethodId} {args : Array Value} {below : List Frame} {meth : Method} {c : Code} {E : EF} (Z : ZT)  (o : Nat) (ho : o < 2) (C : cy p s m args meth c cX9_followers (some .long) 6 RX9 wsX9_followers E (zD Z) vwCl 211 (za Z) (tysX Z)) {res : Int64 × SG}   : ∀ (σ : SG) (p0 : Int64) , m_X9_followers_0  o  σ p0 = some res → ∀ (H : Heap) (locs : List Loc), ws_P (zD Z) vwCl 211 (za Z) (tX Z) σ H → va_S (ws_A 211 (za Z)) s.heap H locs → ∀ (ls : Array Slot), lv_has ls 6 [(0, .ref (za Z (203 + o))), (1, .long p0)] → W p l e rm_X9_followers s m args below meth c H locs 0 0 (MQ below (xQl E (zD Z) vwCl 211 (za Z) (tX Z) (tysX Z) res) args s 0 0 (ws_A 211 (za Z))) (F0 m 0 ls []) := by
  have C0 := C
  obtain ⟨hx, hb, hr, hlocks, hml, hown, hts, hE, hJ, hK⟩ := C0
  intro σ p0  h H locs hP hS ls hl
  unfold m_X9_followers_0 at h
  refine lv_lconst (v := 0) hx hb dX9_followers_0 (by decide) ?_
  refine lv_lstore_n (lv' := [(3, .long 0), (0, .ref (za Z (203 + o))), (1, .long p0)]) hx hb dX9_followers_1 rfl hl (by decide) rfl (fun ls hl => ?_)
  refine lv_iconst (v := 0) hx hb dX9_followers_2 (by decide) ?_
  refine lv_istore (lv' := [(5, .int 0), (3, .long 0), (0, .ref (za Z (203 + o))), (1, .long p0)]) hx hb dX9_followers_3 hl (by decide) rfl (fun ls hl => ?_)
  exact kb_X9_followers_5 Z  o ho C   FV σ p0 0 0 h H locs hP hS ls (lv_sub hl [2, 3, 1, 0] rfl)
def m_X9_followers  (o : Nat) (σ : SG) (p0 : Int64) : Option (Int64 × SG) := m_X9_followers_0  o σ p0
set_option maxHeartbeats 4000000 in
set_option maxRecDepth 100000 in
theorem k_X9_followers (l : Launch) {E : EF} (Z : ZT)  (o : Nat) (ho : o < 2) (σ : SG) (p0 : Int64) {res : Int64 × SG} (h : m_X9_followers  o σ p0 = some res) : Met l yX9_followers wsX9_followers rm_X9_followers (va_Pc [.ref (za Z (203 + o)), .long p0] (wx E (zD Z) vwCl 211 (za Z) (tX Z) (tysX Z) σ)) (xQl E (zD Z) vwCl 211 (za Z) (tX Z) (tysX Z) res) 0 0 (ws_A 211 (za Z)) := by
  refine Met.ofW (cc := cX9_followers) (maxL := 6) (ret := (some .long)) (by decide) rfl ?_
  intro p e s m args below meth c s₁ B hml hv
  obtain ⟨rfl, hE, hJ, hP, hK⟩ := hv
  have hl := lv_entry ([.ref (za Z (203 + o)), .long p0]) (n := 6) (Nat.le_of_ble_eq_true rfl)
  rw [lg_entry_eq]
  generalize (lg_sl ([.ref (za Z (203 + o)), .long p0]) ++ List.replicate (6 - (lg_sl ([.ref (za Z (203 + o)), .long p0])).length) Slot.unset).toArray = ls at hl ⊢
  exact kb_X9_followers_0 Z  o ho ⟨B.exec, B.bytes, B.returns, B.notSynchronized, hml, findClass_of_methodNamed B.named, atoms_spec (ws := wsX9_followers) B.pre, hE, hJ, hK⟩ σ p0 h s.heap [] hP va_S.rf ls hl
/-! TuneSearch$Word.longestFrom(I)I -/
abbrev rm_X9_longestFrom : Room := { frames := 1, cells := 0, slots := 0, locals := 25 }
theorem in_X9_longestFrom_X9 : ∀ w ∈ wsX90, w ∈ wsX9_longestFrom := by decide +kernel
def m_X9_longestFrom_55  (o : Nat) (c10 : SG → Int32 → Int32 → Int64 → Int32 → Option (Int32 × SG)) (σ : SG) (l1 : Int32) (l2 : Int32) (l5 : Int32) (l6 : Int64) : Option (Int32 × SG) :=
  bi (m_X9_followers o σ l6) (fun v11 σ12 => lS (l5 + 1) (fun v14 => c10 σ12 l1 l2 v11 v14))
set_option maxHeartbeats 4000000 in
set_option maxRecDepth 100000 in
theorem kb_X9_longestFrom_55 {p : Program} {l : Launch} {e : Env} {s : State} {m : MethodId} {args : Array Value} {below : List Frame} {meth : Method} {c : Code} {E : EF} (Z : ZT)  (o : Nat) (ho : o < 2) (C : cy p s m args meth c cX9_longestFrom (some .int) 8 RX9 wsX9_longestFrom E (zD Z) vwCl 211 (za Z) (tysX Z)) {res : Int32 × SG} {c10 : SG → Int32 → Int32 → Int64 → Int32 → Option (Int32 × SG)} (hc10 : ∀ (σ : SG) (l1 : Int32) (l2 : Int32) (l3 : Int64) (l5 : Int32) , c10 σ l1 l2 l3 l5 = some res → ∀ (H : Heap) (locs : List Loc), ws_P (zD Z) vwCl 211 (za Z) (tX Z) σ H → va_S (ws_A 211 (za Z)) s.heap H locs → ∀ (ls : Array Slot), lv_has ls 8 [(0, .ref (za Z (203 + o))), (1, .int l1), (2, .int l2), (3, .long l3), (5, .int l5)] → W p l e rm_X9_longestFrom s m args below meth c H locs 0 0 (MQ below (xQi E (zD Z) vwCl 211 (za Z) (tX Z) (tysX Z) res) args s 0 0 (ws_A 211 (za Z))) (F0 m 10 ls [])) : ∀ (σ : SG) (l1 : Int32) (l2 : Int32) (l5 : Int32) (l6 : Int64) , m_X9_longestFrom_55  o c10 σ l1 l2 l5 l6 = some res → ∀ (H : Heap) (locs : List Loc), ws_P (zD Z) vwCl 211 (za Z) (tX Z) σ H → va_S (ws_A 211 (za Z)) s.heap H locs → ∀ (ls : Array Slot), lv_has ls 8 [(0, .ref (za Z (203 + o))), (1, .int l1), (2, .int l2), (5, .int l5), (6, .long l6)] → W p l e rm_X9_longestFrom s m args below meth c H locs 0 0 (MQ below (xQi E (zD Z) vwCl 211 (za Z) (tX Z) (tysX Z) res) args s 0 0 (ws_A 211 (za Z))) (F0 m 55 ls []) := by
  have C0 := C
  obtain ⟨hx, hb, hr, hlocks, hml, hown, hts, hE, hJ, hK⟩ := C0
  intro σ l1 l2 l5 l6  h H locs hP hS ls hl
  unfold m_X9_longestFrom_55 at h
  refine lv_aload_n hx hb dX9_longestFrom_55 rfl (lv_at hl 0 rfl) ?_
  refine lv_lload hx hb dX9_longestFrom_56 (lv_at hl 4 rfl) ?_
  obtain ⟨v11, σ12, hm13, h⟩ := bi_e h
  refine xr_calll (res := (v11, σ12)) (va_runV (As := [.long l6]) (rest := []) ⟨hx, hb, hml, hown, hts⟩ (k_X9_followers l Z o ho σ l6 hm13) (cwV 1 hts gX9_longestFrom_X9_followers rfl rfl rfl (by decide +kernel) ⟨Nat.le_of_ble_eq_true rfl, Nat.le_of_ble_eq_true rfl⟩) ⟨wx_blind, wr_recv hK hP (k := (203 + o)) (by omega) ((tX_Word Z o ho) _ _ _) rfl, fun U hU hW => ⟨rfl, wx_at hE hJ hP hK hS hU hW⟩⟩ rfl rfl hl.1 rfl (lv_room (Nat.le_of_ble_eq_true rfl)) dX9_longestFrom_58 ⟨Nat.le_of_ble_eq_true rfl, Nat.le_of_ble_eq_true rfl⟩) hS (fun H locs hP hS => ?_)
  have hP : ws_P (zD Z) vwCl 211 (za Z) (tX Z) σ12 H := hP
  refine lv_lstore_n (lv' := [(3, .long v11), (0, .ref (za Z (203 + o))), (1, .int l1), (2, .int l2), (5, .int l5), (6, .long l6)]) hx hb dX9_longestFrom_61 rfl hl (by decide) rfl (fun ls hl => ?_)
  obtain ⟨v14, e15, h⟩ := lS_e h
  refine lv_iinc (v := v14) (lv' := [(5, .int v14), (3, .long v11), (0, .ref (za Z (203 + o))), (1, .int l1), (2, .int l2), (6, .long l6)]) hx hb dX9_longestFrom_62 hl (k := 4) rfl (by rw [e15]; rfl) (by decide) rfl (fun ls hl => ?_)
  refine lv_goto (tgt := 10) hx hb dX9_longestFrom_65 (by decide) ?_
  exact hc10 σ12 l1 l2 v11 v14 h H locs hP hS ls (lv_sub hl [2, 3, 4, 1, 0] rfl)
def m_X9_longestFrom_10_s  (o : Nat)  (c10 : SG → Int32 → Int32 → Int64 → Int32 → Option (Int32 × SG)) (σ : SG) (l1 : Int32) (l2 : Int32) (l3 : Int64) (l5 : Int32) : Option (Int32 × SG) :=
  if (σ.1 (203 + o) 7) ≤ l5 then (some (l2, σ)) else (if (lg_cmp l3 0) = 0 then (some (l2, σ)) else (gB (inB l5 24) (lS (l3 &&& (σ.2.1 (146 + o) l5.toNatClampNeg)) (fun v6 => if (lg_cmp (v6 &&& (σ.2.1 (203 + o) 2)) 0) = 0 then (m_X9_longestFrom_55  o c10 σ l1 l2 l5 v6) else (lS ((l5 - l1) + 1) (fun v9 => m_X9_longestFrom_55  o c10 σ l1 v9 l5 v6))))))
def m_X9_longestFrom_10  (o : Nat)  : Nat → SG → Int32 → Int32 → Int64 → Int32 → Option (Int32 × SG)
  | 0, _, _, _, _, _ => none
  | n + 1, σ, l1, l2, l3, l5 => m_X9_longestFrom_10_s  o  (m_X9_longestFrom_10  o  n) σ l1 l2 l3 l5
set_option maxHeartbeats 4000000 in
set_option maxRecDepth 100000 in
theorem kb_X9_longestFrom_10 {p : Program} {l : Launch} {e : Env} {s : State} {m : MethodId} {args : Array Value} {below : List Frame} {meth : Method} {c : Code} {E : EF} (Z : ZT)  (o : Nat) (ho : o < 2) (C : cy p s m args meth c cX9_longestFrom (some .int) 8 RX9 wsX9_longestFrom E (zD Z) vwCl 211 (za Z) (tysX Z)) {res : Int32 × SG}   : ∀ (n : Nat) (σ : SG) (l1 : Int32) (l2 : Int32) (l3 : Int64) (l5 : Int32) , m_X9_longestFrom_10  o  n σ l1 l2 l3 l5 = some res → ∀ (H : Heap) (locs : List Loc), ws_P (zD Z) vwCl 211 (za Z) (tX Z) σ H → va_S (ws_A 211 (za Z)) s.heap H locs → ∀ (ls : Array Slot), lv_has ls 8 [(0, .ref (za Z (203 + o))), (1, .int l1), (2, .int l2), (3, .long l3), (5, .int l5)] → W p l e rm_X9_longestFrom s m args below meth c H locs 0 0 (MQ below (xQi E (zD Z) vwCl 211 (za Z) (tX Z) (tysX Z) res) args s 0 0 (ws_A 211 (za Z))) (F0 m 10 ls []) := by
  have C0 := C
  obtain ⟨hx, hb, hr, hlocks, hml, hown, hts, hE, hJ, hK⟩ := C0
  intro n
  induction n with
  | zero =>
    intro σ l1 l2 l3 l5  h
    cases h
  | succ n ih =>
    intro σ l1 l2 l3 l5  h H locs hP hS ls hl
    have hc10 : ∀ (σ : SG) (l1 : Int32) (l2 : Int32) (l3 : Int64) (l5 : Int32) , m_X9_longestFrom_10  o  n σ l1 l2 l3 l5 = some res → ∀ (H : Heap) (locs : List Loc), ws_P (zD Z) vwCl 211 (za Z) (tX Z) σ H → va_S (ws_A 211 (za Z)) s.heap H locs → ∀ (ls : Array Slot), lv_has ls 8 [(0, .ref (za Z (203 + o))), (1, .int l1), (2, .int l2), (3, .long l3), (5, .int l5)] → W p l e rm_X9_longestFrom s m args below meth c H locs 0 0 (MQ below (xQi E (zD Z) vwCl 211 (za Z) (tX Z) (tysX Z) res) args s 0 0 (ws_A 211 (za Z))) (F0 m 10 ls []) := ih
    have h : m_X9_longestFrom_10_s  o  (m_X9_longestFrom_10  o  n) σ l1 l2 l3 l5 = some res := h
    unfold m_X9_longestFrom_10_s at h
    refine lv_iload hx hb dX9_longestFrom_10 (lv_at hl 4 rfl) ?_
    refine lv_aload_n hx hb dX9_longestFrom_12 rfl (lv_at hl 0 rfl) ?_
    refine wr_get (C := RX9) (T := TX9) (N := 8) hx hb hts (in_X9_longestFrom_X9) hown hK hP (k := (203 + o)) (by omega) ((tX_Word Z o ho) _ _ _) rfl 7 (by decide) (hts (.fieldLink RX9 34 "TuneSearch$Word" "signCount" "I") (by decide +kernel)) (fun _ h9 => h9) rfl dX9_longestFrom_13 ?_
    refine lv_icmp_ge (tgt := 68) hx hb dX9_longestFrom_16 (by decide) (fun q3 => ?_) (fun q3 => ?_)
    · have h := if_p h q3
      refine lv_iload_n hx hb dX9_longestFrom_68 rfl (lv_at hl 2 rfl) ?_
      exact xr_iret hx hb hr hlocks hE hJ hK hP hS h dX9_longestFrom_69
    · have h := if_n h q3
      refine lv_lload_n hx hb dX9_longestFrom_19 rfl (lv_at hl 3 rfl) ?_
      refine lv_lconst (v := 0) hx hb dX9_longestFrom_20 (by decide) ?_
      refine W.lcmp hx hb dX9_longestFrom_21 ?_
      refine lv_if_eq (tgt := 68) hx hb dX9_longestFrom_22 (by decide) (fun q4 => ?_) (fun q4 => ?_)
      · have h := if_p h q4
        refine lv_iload_n hx hb dX9_longestFrom_68 rfl (lv_at hl 2 rfl) ?_
        exact xr_iret hx hb hr hlocks hE hJ hK hP hS h dX9_longestFrom_69
      · have h := if_n h q4
        refine lv_lload_n hx hb dX9_longestFrom_25 rfl (lv_at hl 3 rfl) ?_
        refine lv_aload_n hx hb dX9_longestFrom_26 rfl (lv_at hl 0 rfl) ?_
        refine wr_get (C := RX9) (T := TX9) (N := 8) hx hb hts (in_X9_longestFrom_X9) hown hK hP (k := (203 + o)) (by omega) ((tX_Word Z o ho) _ _ _) rfl 6 (by decide) (hts (.fieldLink RX9 22 "TuneSearch$Word" "fitting" "[J") (by decide +kernel)) (fun _ h9 => h9) rfl dX9_longestFrom_27 ?_
        refine lv_iload hx hb dX9_longestFrom_30 (lv_at hl 4 rfl) ?_
        obtain ⟨b5, h⟩ := gB_e h
        refine wr_lald hx hb hK hP (k := (146 + o)) (by omega) 1 ((tX_fitting Z o ho) _ _ _) rfl b5 dX9_longestFrom_32 ?_
        refine lv_land hx hb dX9_longestFrom_33 ?_
        refine lv_topl (fun v6 e7 => ?_)
        have h := lS_u h e7
        refine lv_lstore (lv' := [(6, .long v6), (0, .ref (za Z (203 + o))), (1, .int l1), (2, .int l2), (3, .long l3), (5, .int l5)]) hx hb dX9_longestFrom_34 hl (by decide) rfl (fun ls hl => ?_)
        refine lv_lload hx hb dX9_longestFrom_36 (lv_at hl 0 rfl) ?_
        refine lv_aload_n hx hb dX9_longestFrom_38 rfl (lv_at hl 1 rfl) ?_
        refine wr_get (C := RX9) (T := TX9) (N := 8) hx hb hts (in_X9_longestFrom_X9) hown hK hP (k := (203 + o)) (by omega) ((tX_Word Z o ho) _ _ _) rfl 2 (by decide) (hts (.fieldLink RX9 48 "TuneSearch$Word" "last" "J") (by decide +kernel)) (fun _ h9 => h9) rfl dX9_longestFrom_39 ?_
        refine lv_land hx hb dX9_longestFrom_42 ?_
        refine lv_lconst (v := 0) hx hb dX9_longestFrom_43 (by decide) ?_
        refine W.lcmp hx hb dX9_longestFrom_44 ?_
        refine lv_if_eq (tgt := 55) hx hb dX9_longestFrom_45 (by decide) (fun q8 => ?_) (fun q8 => ?_)
        · have h := if_p h q8
          exact kb_X9_longestFrom_55 Z  o ho C  hc10 σ l1 l2 l5 v6 h H locs hP hS ls (lv_sub hl [1, 2, 3, 5, 0] rfl)
        · have h := if_n h q8
          refine lv_iload hx hb dX9_longestFrom_48 (lv_at hl 5 rfl) ?_
          refine lv_iload_n hx hb dX9_longestFrom_50 rfl (lv_at hl 2 rfl) ?_
          refine lv_isub hx hb dX9_longestFrom_51 ?_
          refine lv_iconst (v := 1) hx hb dX9_longestFrom_52 (by decide) ?_
          refine lv_iadd hx hb dX9_longestFrom_53 ?_
          refine lv_topi (fun v9 e10 => ?_)
          have h := lS_u h e10
          refine lv_istore_n (lv' := [(2, .int v9), (6, .long v6), (0, .ref (za Z (203 + o))), (1, .int l1), (3, .long l3), (5, .int l5)]) hx hb dX9_longestFrom_54 rfl hl (by decide) rfl (fun ls hl => ?_)
          exact kb_X9_longestFrom_55 Z  o ho C  hc10 σ l1 v9 l5 v6 h H locs hP hS ls (lv_sub hl [2, 3, 0, 5, 1] rfl)
def m_X9_longestFrom_0  (o : Nat)  (σ : SG) (p0 : Int32) : Option (Int32 × SG) :=
  lS (σ.2.1 (203 + o) 1) (fun v1 => m_X9_longestFrom_10  o  FV σ p0 0 v1 p0)
set_option maxHeartbeats 4000000 in
set_option maxRecDepth 100000 in
theorem kb_X9_longestFrom_0 {p : Program} {l : Launch} {e : Env} {s : State} {m : MethodId} {args : Array Value} {below : List Frame} {meth : Method} {c : Code} {E : EF} (Z : ZT)  (o : Nat) (ho : o < 2) (C : cy p s m args meth c cX9_longestFrom (some .int) 8 RX9 wsX9_longestFrom E (zD Z) vwCl 211 (za Z) (tysX Z)) {res : Int32 × SG}   : ∀ (σ : SG) (p0 : Int32) , m_X9_longestFrom_0  o  σ p0 = some res → ∀ (H : Heap) (locs : List Loc), ws_P (zD Z) vwCl 211 (za Z) (tX Z) σ H → va_S (ws_A 211 (za Z)) s.heap H locs → ∀ (ls : Array Slot), lv_has ls 8 [(0, .ref (za Z (203 + o))), (1, .int p0)] → W p l e rm_X9_longestFrom s m args below meth c H locs 0 0 (MQ below (xQi E (zD Z) vwCl 211 (za Z) (tX Z) (tysX Z) res) args s 0 0 (ws_A 211 (za Z))) (F0 m 0 ls []) := by
  have C0 := C
  obtain ⟨hx, hb, hr, hlocks, hml, hown, hts, hE, hJ, hK⟩ := C0
  intro σ p0  h H locs hP hS ls hl
  unfold m_X9_longestFrom_0 at h
  refine lv_iconst (v := 0) hx hb dX9_longestFrom_0 (by decide) ?_
  refine lv_istore_n (lv' := [(2, .int 0), (0, .ref (za Z (203 + o))), (1, .int p0)]) hx hb dX9_longestFrom_1 rfl hl (by decide) rfl (fun ls hl => ?_)
  refine lv_aload_n hx hb dX9_longestFrom_2 rfl (lv_at hl 1 rfl) ?_
  refine wr_get (C := RX9) (T := TX9) (N := 8) hx hb hts (in_X9_longestFrom_X9) hown hK hP (k := (203 + o)) (by omega) ((tX_Word Z o ho) _ _ _) rfl 1 (by decide) (hts (.fieldLink RX9 44 "TuneSearch$Word" "first" "J") (by decide +kernel)) (fun _ h9 => h9) rfl dX9_longestFrom_3 ?_
  refine lv_topl (fun v1 e2 => ?_)
  have h := lS_u h e2
  refine lv_lstore_n (lv' := [(3, .long v1), (2, .int 0), (0, .ref (za Z (203 + o))), (1, .int p0)]) hx hb dX9_longestFrom_6 rfl hl (by decide) rfl (fun ls hl => ?_)
  refine lv_iload_n hx hb dX9_longestFrom_7 rfl (lv_at hl 3 rfl) ?_
  refine lv_istore (lv' := [(5, .int p0), (3, .long v1), (2, .int 0), (0, .ref (za Z (203 + o))), (1, .int p0)]) hx hb dX9_longestFrom_8 hl (by decide) rfl (fun ls hl => ?_)
  exact kb_X9_longestFrom_10 Z  o ho C   FV σ p0 0 v1 p0 h H locs hP hS ls (lv_sub hl [3, 4, 2, 1, 0] rfl)
def m_X9_longestFrom  (o : Nat) (σ : SG) (p0 : Int32) : Option (Int32 × SG) := m_X9_longestFrom_0  o σ p0
set_option maxHeartbeats 4000000 in
set_option maxRecDepth 100000 in
theorem k_X9_longestFrom (l : Launch) {E : EF} (Z : ZT)  (o : Nat) (ho : o < 2) (σ : SG) (p0 : Int32) {res : Int32 × SG} (h : m_X9_longestFrom  o σ p0 = some res) : Met l yX9_longestFrom wsX9_longestFrom rm_X9_longestFrom (va_Pc [.ref (za Z (203 + o)), .int p0] (wx E (zD Z) vwCl 211 (za Z) (tX Z) (tysX Z) σ)) (xQi E (zD Z) vwCl 211 (za Z) (tX Z) (tysX Z) res) 0 0 (ws_A 211 (za Z)) := by
  refine Met.ofW (cc := cX9_longestFrom) (maxL := 8) (ret := (some .int)) (by decide) rfl ?_
  intro p e s m args below meth c s₁ B hml hv
  obtain ⟨rfl, hE, hJ, hP, hK⟩ := hv
  have hl := lv_entry ([.ref (za Z (203 + o)), .int p0]) (n := 8) (Nat.le_of_ble_eq_true rfl)
  rw [lg_entry_eq]
  generalize (lg_sl ([.ref (za Z (203 + o)), .int p0]) ++ List.replicate (8 - (lg_sl ([.ref (za Z (203 + o)), .int p0])).length) Slot.unset).toArray = ls at hl ⊢
  exact kb_X9_longestFrom_0 Z  o ho ⟨B.exec, B.bytes, B.returns, B.notSynchronized, hml, findClass_of_methodNamed B.named, atoms_spec (ws := wsX9_longestFrom) B.pre, hE, hJ, hK⟩ σ p0 h s.heap [] hP va_S.rf ls hl
