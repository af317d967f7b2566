/-! TuneSearch.tune()I -/
abbrev rm_X11_tune : Room := { frames := 0, cells := 0, slots := 0, locals := 0 }
theorem in_X11_tune_X11 : ∀ w ∈ wsX110, w ∈ wsX11_tune := by decide +kernel
def m_X11_tune_0    (σ : SG)  : Option (Int32 × SG) :=
  if (σ.1 155 1) < 8 then (lS (sI σ 155 1 ((σ.1 155 1) + 1)) (fun σ2 => some ((σ2.1 155 1) - 1, σ2))) else (some ((-3), σ))
set_option maxHeartbeats 4000000 in
set_option maxRecDepth 100000 in
theorem kb_X11_tune_0 {p : Program} {l : Launch} {e : Env} {s : State} {m : MethodId} {args : Array Value} {below : List Frame} {meth : Method} {c : Code} {E : EF} (Z : ZT)    (C : cy p s m args meth c cX11_tune (some .int) 1 RX11 wsX11_tune E (zD Z) vwCl 211 (za Z) (tysX Z)) {res : Int32 × SG}   : ∀ (σ : SG)  , m_X11_tune_0    σ  = some res → ∀ (H : Heap) (locs : List Loc), ws_P (zD Z) vwCl 211 (za Z) (tX Z) σ H → va_S (ws_A 211 (za Z)) s.heap H locs → ∀ (ls : Array Slot), lv_has ls 1 [(0, .ref (za Z 155))] → W p l e rm_X11_tune s m args below meth c H locs 0 0 (MQ below (xQi E (zD Z) vwCl 211 (za Z) (tX Z) (tysX Z) res) args s 0 0 (ws_A 211 (za Z))) (F0 m 0 ls []) := by
  have C0 := C
  obtain ⟨hx, hb, hr, hlocks, hml, hown, hts, hE, hJ, hK⟩ := C0
  intro σ   h H locs hP hS ls hl
  unfold m_X11_tune_0 at h
  refine lv_aload_n hx hb dX11_tune_0 rfl (lv_at hl 0 rfl) ?_
  refine wr_get (C := RX11) (T := TX11) (N := 16) hx hb hts (in_X11_tune_X11) hown hK hP (k := 155) (by decide) ((tX_TuneSearch Z) _ _ _) rfl 1 (by decide) (hts (.fieldLink RX11 87 "TuneSearch" "tuneCount" "I") (by decide +kernel)) (fun _ h9 => h9) rfl dX11_tune_1 ?_
  refine lv_bipush (v := 8) hx hb dX11_tune_4 (by decide) ?_
  refine lv_icmp_lt (tgt := 12) hx hb dX11_tune_6 (by decide) (fun q1 => ?_) (fun q1 => ?_)
  · have h := if_p h q1
    refine lv_aload_n hx hb dX11_tune_12 rfl (lv_at hl 0 rfl) ?_
    refine lv_dup hx hb dX11_tune_13 rfl ?_
    refine wr_get (C := RX11) (T := TX11) (N := 16) hx hb hts (in_X11_tune_X11) hown hK hP (k := 155) (by decide) ((tX_TuneSearch Z) _ _ _) rfl 1 (by decide) (hts (.fieldLink RX11 87 "TuneSearch" "tuneCount" "I") (by decide +kernel)) (fun _ h9 => h9) rfl dX11_tune_14 ?_
    refine lv_iconst (v := 1) hx hb dX11_tune_17 (by decide) ?_
    refine lv_iadd hx hb dX11_tune_18 ?_
    refine wr_put (C := RX11) (T := TX11) (N := 16) (σ' := sI σ 155 1 ((σ.1 155 1) + 1)) (ty := .int) hx hb hts (in_X11_tune_X11) tyX11 tyX11_ok nmX11 hown hK hP hJ hS (k := 155) (by decide) ((tX_TuneSearch Z) _ _ _) rfl 1 (by decide) (hts (.fieldLink RX11 87 "TuneSearch" "tuneCount" "I") (by decide +kernel)) (fun _ h9 => h9) rfl (by decide +kernel) rfl rfl (Nat.le_of_ble_eq_true rfl) (ws_pI (tX_TuneSearch Z) rfl) dX11_tune_19 (fun H locs hP hS => ?_)
    obtain ⟨σ2, e3, h⟩ := lS_e h
    rw [← e3] at hP
    refine lv_aload_n hx hb dX11_tune_22 rfl (lv_at hl 0 rfl) ?_
    refine wr_get (C := RX11) (T := TX11) (N := 16) hx hb hts (in_X11_tune_X11) hown hK hP (k := 155) (by decide) ((tX_TuneSearch Z) _ _ _) rfl 1 (by decide) (hts (.fieldLink RX11 87 "TuneSearch" "tuneCount" "I") (by decide +kernel)) (fun _ h9 => h9) rfl dX11_tune_23 ?_
    refine lv_iconst (v := 1) hx hb dX11_tune_26 (by decide) ?_
    refine lv_isub hx hb dX11_tune_27 ?_
    exact xr_iret hx hb hr hlocks hE hJ hK hP hS h dX11_tune_28
  · have h := if_n h q1
    refine lv_bipush (v := (-3)) hx hb dX11_tune_9 (by decide) ?_
    exact xr_iret hx hb hr hlocks hE hJ hK hP hS h dX11_tune_11
def m_X11_tune   (σ : SG)  : Option (Int32 × SG) := m_X11_tune_0   σ 
set_option maxHeartbeats 4000000 in
set_option maxRecDepth 100000 in
theorem k_X11_tune (l : Launch) {E : EF} (Z : ZT)    (σ : SG)  {res : Int32 × SG} (h : m_X11_tune   σ  = some res) : Met l yX11_tune wsX11_tune rm_X11_tune (va_Pc [.ref (za Z 155)] (wx E (zD Z) vwCl 211 (za Z) (tX Z) (tysX Z) σ)) (xQi E (zD Z) vwCl 211 (za Z) (tX Z) (tysX Z) res) 0 0 (ws_A 211 (za Z)) := by
  refine Met.ofW (cc := cX11_tune) (maxL := 1) (ret := (some .int)) (by decide) rfl ?_
  intro p e s m args below meth c s₁ B hml hv
  obtain ⟨rfl, hE, hJ, hP, hK⟩ := hv
  have hl := lv_entry ([.ref (za Z 155)]) (n := 1) (Nat.le_of_ble_eq_true rfl)
  rw [lg_entry_eq]
  generalize (lg_sl ([.ref (za Z 155)]) ++ List.replicate (1 - (lg_sl ([.ref (za Z 155)])).length) Slot.unset).toArray = ls at hl ⊢
  exact kb_X11_tune_0 Z    ⟨B.exec, B.bytes, B.returns, B.notSynchronized, hml, findClass_of_methodNamed B.named, atoms_spec (ws := wsX11_tune) B.pre, hE, hJ, hK⟩ σ  h s.heap [] hP va_S.rf ls hl
/-! TuneSearch.isTune(I)Z -/
abbrev rm_X11_isTune : Room := { frames := 0, cells := 0, slots := 0, locals := 0 }
theorem in_X11_isTune_X11 : ∀ w ∈ wsX110, w ∈ wsX11_isTune := by decide +kernel
def m_X11_isTune_0    (σ : SG) (p0 : Int32) : Option (Int32 × SG) :=
  if p0 < 0 then (some (0, σ)) else (if (σ.1 155 1) ≤ p0 then (some (0, σ)) else (some (1, σ)))
set_option maxHeartbeats 4000000 in
set_option maxRecDepth 100000 in
theorem kb_X11_isTune_0 {p : Program} {l : Launch} {e : Env} {s : State} {m : MethodId} {args : Array Value} {below : List Frame} {meth : Method} {c : Code} {E : EF} (Z : ZT)    (C : cy p s m args meth c cX11_isTune (some .boolean) 2 RX11 wsX11_isTune E (zD Z) vwCl 211 (za Z) (tysX Z)) {res : Int32 × SG}   : ∀ (σ : SG) (p0 : Int32) , m_X11_isTune_0    σ p0 = some res → ∀ (H : Heap) (locs : List Loc), ws_P (zD Z) vwCl 211 (za Z) (tX Z) σ H → va_S (ws_A 211 (za Z)) s.heap H locs → ∀ (ls : Array Slot), lv_has ls 2 [(0, .ref (za Z 155)), (1, .int p0)] → W p l e rm_X11_isTune s m args below meth c H locs 0 0 (MQ below (xQi E (zD Z) vwCl 211 (za Z) (tX Z) (tysX Z) res) args s 0 0 (ws_A 211 (za Z))) (F0 m 0 ls []) := by
  have C0 := C
  obtain ⟨hx, hb, hr, hlocks, hml, hown, hts, hE, hJ, hK⟩ := C0
  intro σ p0  h H locs hP hS ls hl
  unfold m_X11_isTune_0 at h
  refine lv_iload_n hx hb dX11_isTune_0 rfl (lv_at hl 1 rfl) ?_
  refine lv_if_lt (tgt := 16) hx hb dX11_isTune_1 (by decide) (fun q1 => ?_) (fun q1 => ?_)
  · have h := if_p h q1
    refine lv_iconst (v := 0) hx hb dX11_isTune_16 (by decide) ?_
    exact xr_zret hx hb hr hlocks hE hJ hK hP hS rfl h dX11_isTune_17
  · have h := if_n h q1
    refine lv_iload_n hx hb dX11_isTune_4 rfl (lv_at hl 1 rfl) ?_
    refine lv_aload_n hx hb dX11_isTune_5 rfl (lv_at hl 0 rfl) ?_
    refine wr_get (C := RX11) (T := TX11) (N := 16) hx hb hts (in_X11_isTune_X11) hown hK hP (k := 155) (by decide) ((tX_TuneSearch Z) _ _ _) rfl 1 (by decide) (hts (.fieldLink RX11 87 "TuneSearch" "tuneCount" "I") (by decide +kernel)) (fun _ h9 => h9) rfl dX11_isTune_6 ?_
    refine lv_icmp_ge (tgt := 16) hx hb dX11_isTune_9 (by decide) (fun q2 => ?_) (fun q2 => ?_)
    · have h := if_p h q2
      refine lv_iconst (v := 0) hx hb dX11_isTune_16 (by decide) ?_
      exact xr_zret hx hb hr hlocks hE hJ hK hP hS rfl h dX11_isTune_17
    · have h := if_n h q2
      refine lv_iconst (v := 1) hx hb dX11_isTune_12 (by decide) ?_
      refine lv_goto (tgt := 17) hx hb dX11_isTune_13 (by decide) ?_
      exact xr_zret hx hb hr hlocks hE hJ hK hP hS rfl h dX11_isTune_17
def m_X11_isTune   (σ : SG) (p0 : Int32) : Option (Int32 × SG) := m_X11_isTune_0   σ p0
set_option maxHeartbeats 4000000 in
set_option maxRecDepth 100000 in
theorem k_X11_isTune (l : Launch) {E : EF} (Z : ZT)    (σ : SG) (p0 : Int32) {res : Int32 × SG} (h : m_X11_isTune   σ p0 = some res) : Met l yX11_isTune wsX11_isTune rm_X11_isTune (va_Pc [.ref (za Z 155), .int p0] (wx E (zD Z) vwCl 211 (za Z) (tX Z) (tysX Z) σ)) (xQi E (zD Z) vwCl 211 (za Z) (tX Z) (tysX Z) res) 0 0 (ws_A 211 (za Z)) := by
  refine Met.ofW (cc := cX11_isTune) (maxL := 2) (ret := (some .boolean)) (by decide) rfl ?_
  intro p e s m args below meth c s₁ B hml hv
  obtain ⟨rfl, hE, hJ, hP, hK⟩ := hv
  have hl := lv_entry ([.ref (za Z 155), .int p0]) (n := 2) (Nat.le_of_ble_eq_true rfl)
  rw [lg_entry_eq]
  generalize (lg_sl ([.ref (za Z 155), .int p0]) ++ List.replicate (2 - (lg_sl ([.ref (za Z 155), .int p0])).length) Slot.unset).toArray = ls at hl ⊢
  exact kb_X11_isTune_0 Z    ⟨B.exec, B.bytes, B.returns, B.notSynchronized, hml, findClass_of_methodNamed B.named, atoms_spec (ws := wsX11_isTune) B.pre, hE, hJ, hK⟩ σ p0 h s.heap [] hP va_S.rf ls hl
/-! TuneSearch.addNote(LTuneSearch$NoteRow;II)I -/
abbrev rm_X11_addNote : Room := { frames := 1, cells := 0, slots := 0, locals := 22 }
theorem in_X11_addNote_X4 : ∀ w ∈ wsX40, w ∈ wsX11_addNote := by decide +kernel
def m_X11_addNote_0  (r0 : Nat)  (σ : SG) (p1 : Int32) (p2 : Int32) : Option (Int32 × SG) :=
  if p1 < (-1) then (some ((-2), σ)) else (if 127 < p1 then (some ((-2), σ)) else (if p2 < 1 then (some ((-2), σ)) else (if p2 ≤ 64 then (bi (m_X4_isFull r0 σ ) (fun v5 σ6 => if v5 = 0 then (bi (m_X4_append r0 σ6 p1 p2) (fun v9 σ10 => some (σ10.1 (156 + r0) 2, σ10))) else (some ((-3), σ6)))) else (some ((-2), σ)))))
set_option maxHeartbeats 4000000 in
set_option maxRecDepth 100000 in
theorem kb_X11_addNote_0 {p : Program} {l : Launch} {e : Env} {s : State} {m : MethodId} {args : Array Value} {below : List Frame} {meth : Method} {c : Code} {E : EF} (Z : ZT)  (r0 : Nat) (hr0 : r0 < 9) (C : cy p s m args meth c cX11_addNote (some .int) 3 RX11 wsX11_addNote E (zD Z) vwCl 211 (za Z) (tysX Z)) {res : Int32 × SG}   : ∀ (σ : SG) (p1 : Int32) (p2 : Int32) , m_X11_addNote_0  r0  σ p1 p2 = some res → ∀ (H : Heap) (locs : List Loc), ws_P (zD Z) vwCl 211 (za Z) (tX Z) σ H → va_S (ws_A 211 (za Z)) s.heap H locs → ∀ (ls : Array Slot), lv_has ls 3 [(0, .ref (za Z (156 + r0))), (1, .int p1), (2, .int p2)] → W p l e rm_X11_addNote s m args below meth c H locs 0 0 (MQ below (xQi E (zD Z) vwCl 211 (za Z) (tX Z) (tysX Z) res) args s 0 0 (ws_A 211 (za Z))) (F0 m 0 ls []) := by
  have C0 := C
  obtain ⟨hx, hb, hr, hlocks, hml, hown, hts, hE, hJ, hK⟩ := C0
  intro σ p1 p2  h H locs hP hS ls hl
  unfold m_X11_addNote_0 at h
  refine lv_iload_n hx hb dX11_addNote_0 rfl (lv_at hl 1 rfl) ?_
  refine lv_iconst (v := (-1)) hx hb dX11_addNote_1 (by decide) ?_
  refine lv_icmp_lt (tgt := 22) hx hb dX11_addNote_2 (by decide) (fun q1 => ?_) (fun q1 => ?_)
  · have h := if_p h q1
    refine lv_bipush (v := (-2)) hx hb dX11_addNote_22 (by decide) ?_
    exact xr_iret hx hb hr hlocks hE hJ hK hP hS h dX11_addNote_24
  · have h := if_n h q1
    refine lv_iload_n hx hb dX11_addNote_5 rfl (lv_at hl 1 rfl) ?_
    refine lv_bipush (v := 127) hx hb dX11_addNote_6 (by decide) ?_
    refine lv_icmp_gt (tgt := 22) hx hb dX11_addNote_8 (by decide) (fun q2 => ?_) (fun q2 => ?_)
    · have h := if_p h q2
      refine lv_bipush (v := (-2)) hx hb dX11_addNote_22 (by decide) ?_
      exact xr_iret hx hb hr hlocks hE hJ hK hP hS h dX11_addNote_24
    · have h := if_n h q2
      refine lv_iload_n hx hb dX11_addNote_11 rfl (lv_at hl 2 rfl) ?_
      refine lv_iconst (v := 1) hx hb dX11_addNote_12 (by decide) ?_
      refine lv_icmp_lt (tgt := 22) hx hb dX11_addNote_13 (by decide) (fun q3 => ?_) (fun q3 => ?_)
      · have h := if_p h q3
        refine lv_bipush (v := (-2)) hx hb dX11_addNote_22 (by decide) ?_
        exact xr_iret hx hb hr hlocks hE hJ hK hP hS h dX11_addNote_24
      · have h := if_n h q3
        refine lv_iload_n hx hb dX11_addNote_16 rfl (lv_at hl 2 rfl) ?_
        refine lv_bipush (v := 64) hx hb dX11_addNote_17 (by decide) ?_
        refine lv_icmp_le (tgt := 25) hx hb dX11_addNote_19 (by decide) (fun q4 => ?_) (fun q4 => ?_)
        · have h := if_p h q4
          refine lv_aload_n hx hb dX11_addNote_25 rfl (lv_at hl 0 rfl) ?_
          obtain ⟨v5, σ6, hm7, h⟩ := bi_e h
          refine xr_calli (res := (v5, σ6)) (va_runV (As := []) (rest := []) ⟨hx, hb, hml, hown, hts⟩ (k_X4_isFull l Z r0 hr0 σ  hm7) (cwV 0 hts gX11_addNote_X4_isFull rfl rfl rfl (by decide +kernel) ⟨Nat.le_of_ble_eq_true rfl, Nat.le_of_ble_eq_true rfl⟩) ⟨wx_blind, wr_recv hK hP (k := (156 + r0)) (by omega) ((tX_NoteRow Z r0 hr0) _ _ _) rfl, fun U hU hW => ⟨rfl, wx_at hE hJ hP hK hS hU hW⟩⟩ rfl rfl hl.1 rfl (lv_room (Nat.le_of_ble_eq_true rfl)) dX11_addNote_26 ⟨Nat.le_of_ble_eq_true rfl, Nat.le_of_ble_eq_true rfl⟩) hS (fun H locs hP hS => ?_)
          have hP : ws_P (zD Z) vwCl 211 (za Z) (tX Z) σ6 H := hP
          refine lv_if_eq (tgt := 35) hx hb dX11_addNote_29 (by decide) (fun q8 => ?_) (fun q8 => ?_)
          · have h := if_p h q8
            refine lv_aload_n hx hb dX11_addNote_35 rfl (lv_at hl 0 rfl) ?_
            refine lv_iload_n hx hb dX11_addNote_36 rfl (lv_at hl 1 rfl) ?_
            refine lv_iload_n hx hb dX11_addNote_37 rfl (lv_at hl 2 rfl) ?_
            obtain ⟨v9, σ10, hm11, h⟩ := bi_e h
            refine xr_callv (res := (v9, σ10)) (va_runV (As := [.int p1, .int p2]) (rest := []) ⟨hx, hb, hml, hown, hts⟩ (k_X4_append l Z r0 hr0 σ6 p1 p2 hm11) (cwV 2 hts gX11_addNote_X4_append rfl rfl rfl (by decide +kernel) ⟨Nat.le_of_ble_eq_true rfl, Nat.le_of_ble_eq_true rfl⟩) ⟨wx_blind, wr_recv hK hP (k := (156 + r0)) (by omega) ((tX_NoteRow Z r0 hr0) _ _ _) rfl, fun U hU hW => ⟨rfl, wx_at hE hJ hP hK hS hU hW⟩⟩ rfl rfl hl.1 rfl (lv_room (Nat.le_of_ble_eq_true rfl)) dX11_addNote_38 ⟨Nat.le_of_ble_eq_true rfl, Nat.le_of_ble_eq_true rfl⟩) hS (fun H locs hP hS => ?_)
            have hP : ws_P (zD Z) vwCl 211 (za Z) (tX Z) σ10 H := hP
            refine lv_aload_n hx hb dX11_addNote_41 rfl (lv_at hl 0 rfl) ?_
            refine wr_get (C := RX4) (T := TX4) (N := 3) hx hb hts (in_X11_addNote_X4) hown hK hP (k := (156 + r0)) (by omega) ((tX_NoteRow Z r0 hr0) _ _ _) rfl 2 (by decide) (hts (.fieldLink RX11 99 "TuneSearch$NoteRow" "count" "I") (by decide +kernel)) (fun _ h9 => h9) rfl dX11_addNote_42 ?_
            exact xr_iret hx hb hr hlocks hE hJ hK hP hS h dX11_addNote_45
          · have h := if_n h q8
            refine lv_bipush (v := (-3)) hx hb dX11_addNote_32 (by decide) ?_
            exact xr_iret hx hb hr hlocks hE hJ hK hP hS h dX11_addNote_34
        · have h := if_n h q4
          refine lv_bipush (v := (-2)) hx hb dX11_addNote_22 (by decide) ?_
          exact xr_iret hx hb hr hlocks hE hJ hK hP hS h dX11_addNote_24
def m_X11_addNote  (r0 : Nat) (σ : SG) (p1 : Int32) (p2 : Int32) : Option (Int32 × SG) := m_X11_addNote_0  r0 σ p1 p2
set_option maxHeartbeats 4000000 in
set_option maxRecDepth 100000 in
theorem k_X11_addNote (l : Launch) {E : EF} (Z : ZT)  (r0 : Nat) (hr0 : r0 < 9) (σ : SG) (p1 : Int32) (p2 : Int32) {res : Int32 × SG} (h : m_X11_addNote  r0 σ p1 p2 = some res) : Met l yX11_addNote wsX11_addNote rm_X11_addNote (va_Pc [.ref (za Z (156 + r0)), .int p1, .int p2] (wx E (zD Z) vwCl 211 (za Z) (tX Z) (tysX Z) σ)) (xQi E (zD Z) vwCl 211 (za Z) (tX Z) (tysX Z) res) 0 0 (ws_A 211 (za Z)) := by
  refine Met.ofW (cc := cX11_addNote) (maxL := 3) (ret := (some .int)) (by decide) rfl ?_
  intro p e s m args below meth c s₁ B hml hv
  obtain ⟨rfl, hE, hJ, hP, hK⟩ := hv
  have hl := lv_entry ([.ref (za Z (156 + r0)), .int p1, .int p2]) (n := 3) (Nat.le_of_ble_eq_true rfl)
  rw [lg_entry_eq]
  generalize (lg_sl ([.ref (za Z (156 + r0)), .int p1, .int p2]) ++ List.replicate (3 - (lg_sl ([.ref (za Z (156 + r0)), .int p1, .int p2])).length) Slot.unset).toArray = ls at hl ⊢
  exact kb_X11_addNote_0 Z  r0 hr0 ⟨B.exec, B.bytes, B.returns, B.notSynchronized, hml, findClass_of_methodNamed B.named, atoms_spec (ws := wsX11_addNote) B.pre, hE, hJ, hK⟩ σ p1 p2 h s.heap [] hP va_S.rf ls hl
/-! TuneSearch.note(III)I -/
abbrev rm_X11_note : Room := { frames := 2, cells := 0, slots := 0, locals := 44 }
theorem in_X11_note_X11 : ∀ w ∈ wsX110, w ∈ wsX11_note := by decide +kernel
def m_X11_note_0    (σ : SG) (p0 : Int32) (p1 : Int32) (p2 : Int32) : Option (Int32 × SG) :=
  bi (m_X11_isTune  σ p0) (fun v1 σ2 => if ¬ v1 = 0 then (gB (inB p0 8) (bi (m_X11_addNote p0.toNatClampNeg σ2 p1 p2) (fun v8 σ9 => some (v8, σ9)))) else (some ((-1), σ2)))
set_option maxHeartbeats 4000000 in
set_option maxRecDepth 100000 in
theorem kb_X11_note_0 {p : Program} {l : Launch} {e : Env} {s : State} {m : MethodId} {args : Array Value} {below : List Frame} {meth : Method} {c : Code} {E : EF} (Z : ZT)    (C : cy p s m args meth c cX11_note (some .int) 4 RX11 wsX11_note E (zD Z) vwCl 211 (za Z) (tysX Z)) {res : Int32 × SG}   : ∀ (σ : SG) (p0 : Int32) (p1 : Int32) (p2 : Int32) , m_X11_note_0    σ p0 p1 p2 = some res → ∀ (H : Heap) (locs : List Loc), ws_P (zD Z) vwCl 211 (za Z) (tX Z) σ H → va_S (ws_A 211 (za Z)) s.heap H locs → ∀ (ls : Array Slot), lv_has ls 4 [(0, .ref (za Z 155)), (1, .int p0), (2, .int p1), (3, .int p2)] → W p l e rm_X11_note s m args below meth c H locs 0 0 (MQ below (xQi E (zD Z) vwCl 211 (za Z) (tX Z) (tysX Z) res) args s 0 0 (ws_A 211 (za Z))) (F0 m 0 ls []) := by
  have C0 := C
  obtain ⟨hx, hb, hr, hlocks, hml, hown, hts, hE, hJ, hK⟩ := C0
  intro σ p0 p1 p2  h H locs hP hS ls hl
  unfold m_X11_note_0 at h
  refine lv_aload_n hx hb dX11_note_0 rfl (lv_at hl 0 rfl) ?_
  refine lv_iload_n hx hb dX11_note_1 rfl (lv_at hl 1 rfl) ?_
  obtain ⟨v1, σ2, hm3, h⟩ := bi_e h
  refine xr_calli (res := (v1, σ2)) (va_runV (As := [.int p0]) (rest := []) ⟨hx, hb, hml, hown, hts⟩ (k_X11_isTune l Z   σ p0 hm3) (cwV 1 hts gX11_note_X11_isTune rfl rfl rfl (by decide +kernel) ⟨Nat.le_of_ble_eq_true rfl, Nat.le_of_ble_eq_true rfl⟩) ⟨wx_blind, wr_recv hK hP (k := 155) (by decide) ((tX_TuneSearch Z) _ _ _) rfl, fun U hU hW => ⟨rfl, wx_at hE hJ hP hK hS hU hW⟩⟩ rfl rfl hl.1 rfl (lv_room (Nat.le_of_ble_eq_true rfl)) dX11_note_2 ⟨Nat.le_of_ble_eq_true rfl, Nat.le_of_ble_eq_true rfl⟩) hS (fun H locs hP hS => ?_)
  have hP : ws_P (zD Z) vwCl 211 (za Z) (tX Z) σ2 H := hP
  refine lv_if_ne (tgt := 10) hx hb dX11_note_5 (by decide) (fun q4 => ?_) (fun q4 => ?_)
  · have h := if_p h q4
    refine lv_aload_n hx hb dX11_note_10 rfl (lv_at hl 0 rfl) ?_
    refine wr_get (C := RX11) (T := TX11) (N := 16) hx hb hts (in_X11_note_X11) hown hK hP (k := 155) (by decide) ((tX_TuneSearch Z) _ _ _) rfl 0 (by decide) (hts (.fieldLink RX11 11 "TuneSearch" "tunes" "[LTuneSearch$NoteRow;") (by decide +kernel)) (fun _ h9 => h9) rfl dX11_note_11 ?_
    refine lv_iload_n hx hb dX11_note_14 rfl (lv_at hl 1 rfl) ?_
    obtain ⟨b5, h⟩ := gB_e h
    have hi6 := inB_lt b5
    have hi7 : p0.toNatClampNeg < 9 := Nat.lt_of_lt_of_le hi6 (by decide)
    refine wr_aald hx hb hK hP (k := 148) (by decide) 3 rfl ((tX_tunes Z) _ _ _) rfl b5 (row_at hi6) dX11_note_15 ?_
    refine lv_iload_n hx hb dX11_note_16 rfl (lv_at hl 2 rfl) ?_
    refine lv_iload_n hx hb dX11_note_17 rfl (lv_at hl 3 rfl) ?_
    obtain ⟨v8, σ9, hm10, h⟩ := bi_e h
    refine xr_calli (res := (v8, σ9)) (va_runS (As := [.ref (za Z (156 + p0.toNatClampNeg)), .int p1, .int p2]) (rest := []) ⟨hx, hb, hml, hown, hts⟩ (k_X11_addNote l Z p0.toNatClampNeg hi7 σ2 p1 p2 hm10) (va_cwS 3 hts gX11_note_X11_addNote rfl rfl rfl (by decide +kernel) ⟨Nat.le_of_ble_eq_true rfl, Nat.le_of_ble_eq_true rfl⟩) ⟨wx_blind, fun U hU hW => ⟨rfl, wx_at hE hJ hP hK hS hU hW⟩⟩ rfl rfl hl.1 rfl (lv_room (Nat.le_of_ble_eq_true rfl)) dX11_note_18 ⟨Nat.le_of_ble_eq_true rfl, Nat.le_of_ble_eq_true rfl⟩) hS (fun H locs hP hS => ?_)
    have hP : ws_P (zD Z) vwCl 211 (za Z) (tX Z) σ9 H := hP
    exact xr_iret hx hb hr hlocks hE hJ hK hP hS h dX11_note_21
  · have h := if_n h (fun z => z q4)
    refine lv_iconst (v := (-1)) hx hb dX11_note_8 (by decide) ?_
    exact xr_iret hx hb hr hlocks hE hJ hK hP hS h dX11_note_9
def m_X11_note   (σ : SG) (p0 : Int32) (p1 : Int32) (p2 : Int32) : Option (Int32 × SG) := m_X11_note_0   σ p0 p1 p2
set_option maxHeartbeats 4000000 in
set_option maxRecDepth 100000 in
theorem k_X11_note (l : Launch) {E : EF} (Z : ZT)    (σ : SG) (p0 : Int32) (p1 : Int32) (p2 : Int32) {res : Int32 × SG} (h : m_X11_note   σ p0 p1 p2 = some res) : Met l yX11_note wsX11_note rm_X11_note (va_Pc [.ref (za Z 155), .int p0, .int p1, .int p2] (wx E (zD Z) vwCl 211 (za Z) (tX Z) (tysX Z) σ)) (xQi E (zD Z) vwCl 211 (za Z) (tX Z) (tysX Z) res) 0 0 (ws_A 211 (za Z)) := by
  refine Met.ofW (cc := cX11_note) (maxL := 4) (ret := (some .int)) (by decide) rfl ?_
  intro p e s m args below meth c s₁ B hml hv
  obtain ⟨rfl, hE, hJ, hP, hK⟩ := hv
  have hl := lv_entry ([.ref (za Z 155), .int p0, .int p1, .int p2]) (n := 4) (Nat.le_of_ble_eq_true rfl)
  rw [lg_entry_eq]
  generalize (lg_sl ([.ref (za Z 155), .int p0, .int p1, .int p2]) ++ List.replicate (4 - (lg_sl ([.ref (za Z 155), .int p0, .int p1, .int p2])).length) Slot.unset).toArray = ls at hl ⊢
  exact kb_X11_note_0 Z    ⟨B.exec, B.bytes, B.returns, B.notSynchronized, hml, findClass_of_methodNamed B.named, atoms_spec (ws := wsX11_note) B.pre, hE, hJ, hK⟩ σ p0 p1 p2 h s.heap [] hP va_S.rf ls hl
/-! TuneSearch.query(II)I -/
abbrev rm_X11_query : Room := { frames := 2, cells := 0, slots := 0, locals := 44 }
theorem in_X11_query_X11 : ∀ w ∈ wsX110, w ∈ wsX11_query := by decide +kernel
def m_X11_query_0    (σ : SG) (p0 : Int32) (p1 : Int32) : Option (Int32 × SG) :=
  bi (m_X11_addNote 8 σ p0 p1) (fun v1 σ2 => some (v1, σ2))
set_option maxHeartbeats 4000000 in
set_option maxRecDepth 100000 in
theorem kb_X11_query_0 {p : Program} {l : Launch} {e : Env} {s : State} {m : MethodId} {args : Array Value} {below : List Frame} {meth : Method} {c : Code} {E : EF} (Z : ZT)    (C : cy p s m args meth c cX11_query (some .int) 3 RX11 wsX11_query E (zD Z) vwCl 211 (za Z) (tysX Z)) {res : Int32 × SG}   : ∀ (σ : SG) (p0 : Int32) (p1 : Int32) , m_X11_query_0    σ p0 p1 = some res → ∀ (H : Heap) (locs : List Loc), ws_P (zD Z) vwCl 211 (za Z) (tX Z) σ H → va_S (ws_A 211 (za Z)) s.heap H locs → ∀ (ls : Array Slot), lv_has ls 3 [(0, .ref (za Z 155)), (1, .int p0), (2, .int p1)] → W p l e rm_X11_query s m args below meth c H locs 0 0 (MQ below (xQi E (zD Z) vwCl 211 (za Z) (tX Z) (tysX Z) res) args s 0 0 (ws_A 211 (za Z))) (F0 m 0 ls []) := by
  have C0 := C
  obtain ⟨hx, hb, hr, hlocks, hml, hown, hts, hE, hJ, hK⟩ := C0
  intro σ p0 p1  h H locs hP hS ls hl
  unfold m_X11_query_0 at h
  refine lv_aload_n hx hb dX11_query_0 rfl (lv_at hl 0 rfl) ?_
  refine wr_get (C := RX11) (T := TX11) (N := 16) hx hb hts (in_X11_query_X11) hown hK hP (k := 155) (by decide) ((tX_TuneSearch Z) _ _ _) rfl 2 (by decide) (hts (.fieldLink RX11 18 "TuneSearch" "asked" "LTuneSearch$NoteRow;") (by decide +kernel)) (fun _ h9 => h9) rfl dX11_query_1 ?_
  refine lv_iload_n hx hb dX11_query_4 rfl (lv_at hl 1 rfl) ?_
  refine lv_iload_n hx hb dX11_query_5 rfl (lv_at hl 2 rfl) ?_
  obtain ⟨v1, σ2, hm3, h⟩ := bi_e h
  refine xr_calli (res := (v1, σ2)) (va_runS (As := [.ref (za Z (156 + 8)), .int p0, .int p1]) (rest := []) ⟨hx, hb, hml, hown, hts⟩ (k_X11_addNote l Z 8 (by decide) σ p0 p1 hm3) (va_cwS 3 hts gX11_query_X11_addNote rfl rfl rfl (by decide +kernel) ⟨Nat.le_of_ble_eq_true rfl, Nat.le_of_ble_eq_true rfl⟩) ⟨wx_blind, fun U hU hW => ⟨rfl, wx_at hE hJ hP hK hS hU hW⟩⟩ rfl rfl hl.1 rfl (lv_room (Nat.le_of_ble_eq_true rfl)) dX11_query_6 ⟨Nat.le_of_ble_eq_true rfl, Nat.le_of_ble_eq_true rfl⟩) hS (fun H locs hP hS => ?_)
  have hP : ws_P (zD Z) vwCl 211 (za Z) (tX Z) σ2 H := hP
  exact xr_iret hx hb hr hlocks hE hJ hK hP hS h dX11_query_9
def m_X11_query   (σ : SG) (p0 : Int32) (p1 : Int32) : Option (Int32 × SG) := m_X11_query_0   σ p0 p1
set_option maxHeartbeats 4000000 in
set_option maxRecDepth 100000 in
theorem k_X11_query (l : Launch) {E : EF} (Z : ZT)    (σ : SG) (p0 : Int32) (p1 : Int32) {res : Int32 × SG} (h : m_X11_query   σ p0 p1 = some res) : Met l yX11_query wsX11_query rm_X11_query (va_Pc [.ref (za Z 155), .int p0, .int p1] (wx E (zD Z) vwCl 211 (za Z) (tX Z) (tysX Z) σ)) (xQi E (zD Z) vwCl 211 (za Z) (tX Z) (tysX Z) res) 0 0 (ws_A 211 (za Z)) := by
  refine Met.ofW (cc := cX11_query) (maxL := 3) (ret := (some .int)) (by decide) rfl ?_
  intro p e s m args below meth c s₁ B hml hv
  obtain ⟨rfl, hE, hJ, hP, hK⟩ := hv
  have hl := lv_entry ([.ref (za Z 155), .int p0, .int p1]) (n := 3) (Nat.le_of_ble_eq_true rfl)
  rw [lg_entry_eq]
  generalize (lg_sl ([.ref (za Z 155), .int p0, .int p1]) ++ List.replicate (3 - (lg_sl ([.ref (za Z 155), .int p0, .int p1])).length) Slot.unset).toArray = ls at hl ⊢
  exact kb_X11_query_0 Z    ⟨B.exec, B.bytes, B.returns, B.notSynchronized, hml, findClass_of_methodNamed B.named, atoms_spec (ws := wsX11_query) B.pre, hE, hJ, hK⟩ σ p0 p1 h s.heap [] hP va_S.rf ls hl
/-! TuneSearch.forget()I -/
abbrev rm_X11_forget : Room := { frames := 0, cells := 0, slots := 0, locals := 0 }
theorem in_X11_forget_X4 : ∀ w ∈ wsX40, w ∈ wsX11_forget := by decide +kernel
theorem in_X11_forget_X11 : ∀ w ∈ wsX110, w ∈ wsX11_forget := by decide +kernel
def m_X11_forget_0    (σ : SG)  : Option (Int32 × SG) :=
  lS (σ.1 (156 + 8) 2) (fun v1 => lS (sI σ (156 + 8) 2 0) (fun σ3 => some (v1, σ3)))
set_option maxHeartbeats 4000000 in
set_option maxRecDepth 100000 in
theorem kb_X11_forget_0 {p : Program} {l : Launch} {e : Env} {s : State} {m : MethodId} {args : Array Value} {below : List Frame} {meth : Method} {c : Code} {E : EF} (Z : ZT)    (C : cy p s m args meth c cX11_forget (some .int) 2 RX11 wsX11_forget E (zD Z) vwCl 211 (za Z) (tysX Z)) {res : Int32 × SG}   : ∀ (σ : SG)  , m_X11_forget_0    σ  = some res → ∀ (H : Heap) (locs : List Loc), ws_P (zD Z) vwCl 211 (za Z) (tX Z) σ H → va_S (ws_A 211 (za Z)) s.heap H locs → ∀ (ls : Array Slot), lv_has ls 2 [(0, .ref (za Z 155))] → W p l e rm_X11_forget s m args below meth c H locs 0 0 (MQ below (xQi E (zD Z) vwCl 211 (za Z) (tX Z) (tysX Z) res) args s 0 0 (ws_A 211 (za Z))) (F0 m 0 ls []) := by
  have C0 := C
  obtain ⟨hx, hb, hr, hlocks, hml, hown, hts, hE, hJ, hK⟩ := C0
  intro σ   h H locs hP hS ls hl
  unfold m_X11_forget_0 at h
  refine lv_aload_n hx hb dX11_forget_0 rfl (lv_at hl 0 rfl) ?_
  refine wr_get (C := RX11) (T := TX11) (N := 16) hx hb hts (in_X11_forget_X11) hown hK hP (k := 155) (by decide) ((tX_TuneSearch Z) _ _ _) rfl 2 (by decide) (hts (.fieldLink RX11 18 "TuneSearch" "asked" "LTuneSearch$NoteRow;") (by decide +kernel)) (fun _ h9 => h9) rfl dX11_forget_1 ?_
  refine wr_get (C := RX4) (T := TX4) (N := 3) hx hb hts (in_X11_forget_X4) hown hK hP (k := (156 + 8)) (by omega) ((tX_NoteRow Z 8 (by decide)) _ _ _) rfl 2 (by decide) (hts (.fieldLink RX11 99 "TuneSearch$NoteRow" "count" "I") (by decide +kernel)) (fun _ h9 => h9) rfl dX11_forget_4 ?_
  refine lv_topi (fun v1 e2 => ?_)
  have h := lS_u h e2
  refine lv_istore_n (lv' := [(1, .int v1), (0, .ref (za Z 155))]) hx hb dX11_forget_7 rfl hl (by decide) rfl (fun ls hl => ?_)
  refine lv_aload_n hx hb dX11_forget_8 rfl (lv_at hl 1 rfl) ?_
  refine wr_get (C := RX11) (T := TX11) (N := 16) hx hb hts (in_X11_forget_X11) hown hK hP (k := 155) (by decide) ((tX_TuneSearch Z) _ _ _) rfl 2 (by decide) (hts (.fieldLink RX11 18 "TuneSearch" "asked" "LTuneSearch$NoteRow;") (by decide +kernel)) (fun _ h9 => h9) rfl dX11_forget_9 ?_
  refine lv_iconst (v := 0) hx hb dX11_forget_12 (by decide) ?_
  refine wr_put (C := RX4) (T := TX4) (N := 3) (σ' := sI σ (156 + 8) 2 0) (ty := .int) hx hb hts (in_X11_forget_X4) tyX4 tyX4_ok nmX4 hown hK hP hJ hS (k := (156 + 8)) (by omega) ((tX_NoteRow Z 8 (by decide)) _ _ _) rfl 2 (by decide) (hts (.fieldLink RX11 99 "TuneSearch$NoteRow" "count" "I") (by decide +kernel)) (fun _ h9 => h9) rfl (by decide +kernel) rfl rfl (Nat.le_of_ble_eq_true rfl) (ws_pI (tX_NoteRow Z 8 (by decide)) rfl) dX11_forget_13 (fun H locs hP hS => ?_)
  obtain ⟨σ3, e4, h⟩ := lS_e h
  rw [← e4] at hP
  refine lv_iload_n hx hb dX11_forget_16 rfl (lv_at hl 0 rfl) ?_
  exact xr_iret hx hb hr hlocks hE hJ hK hP hS h dX11_forget_17
def m_X11_forget   (σ : SG)  : Option (Int32 × SG) := m_X11_forget_0   σ 
set_option maxHeartbeats 4000000 in
set_option maxRecDepth 100000 in
theorem k_X11_forget (l : Launch) {E : EF} (Z : ZT)    (σ : SG)  {res : Int32 × SG} (h : m_X11_forget   σ  = some res) : Met l yX11_forget wsX11_forget rm_X11_forget (va_Pc [.ref (za Z 155)] (wx E (zD Z) vwCl 211 (za Z) (tX Z) (tysX Z) σ)) (xQi E (zD Z) vwCl 211 (za Z) (tX Z) (tysX Z) res) 0 0 (ws_A 211 (za Z)) := by
  refine Met.ofW (cc := cX11_forget) (maxL := 2) (ret := (some .int)) (by decide) rfl ?_
  intro p e s m args below meth c s₁ B hml hv
  obtain ⟨rfl, hE, hJ, hP, hK⟩ := hv
  have hl := lv_entry ([.ref (za Z 155)]) (n := 2) (Nat.le_of_ble_eq_true rfl)
  rw [lg_entry_eq]
  generalize (lg_sl ([.ref (za Z 155)]) ++ List.replicate (2 - (lg_sl ([.ref (za Z 155)])).length) Slot.unset).toArray = ls at hl ⊢
  exact kb_X11_forget_0 Z    ⟨B.exec, B.bytes, B.returns, B.notSynchronized, hml, findClass_of_methodNamed B.named, atoms_spec (ws := wsX11_forget) B.pre, hE, hJ, hK⟩ σ  h s.heap [] hP va_S.rf ls hl
/-! TuneSearch.price(II)I -/
abbrev rm_X11_price : Room := { frames := 0, cells := 0, slots := 0, locals := 0 }
theorem in_X11_price_X11 : ∀ w ∈ wsX110, w ∈ wsX11_price := by decide +kernel
def m_X11_price_0    (σ : SG) (p0 : Int32) (p1 : Int32) : Option (Int32 × SG) :=
  if p0 < 0 then (some ((-1), σ)) else (if p0 < 8 then (if p1 < 0 then (some ((-2), σ)) else (if p1 ≤ 1000 then (gB (inB p0 8) (lS (σ.1 18 p0.toNatClampNeg) (fun v6 => gB (inB p0 8) (lS (sI σ 18 p0.toNatClampNeg p1) (fun σ9 => some (v6, σ9)))))) else (some ((-2), σ)))) else (some ((-1), σ)))
set_option maxHeartbeats 4000000 in
set_option maxRecDepth 100000 in
theorem kb_X11_price_0 {p : Program} {l : Launch} {e : Env} {s : State} {m : MethodId} {args : Array Value} {below : List Frame} {meth : Method} {c : Code} {E : EF} (Z : ZT)    (C : cy p s m args meth c cX11_price (some .int) 4 RX11 wsX11_price E (zD Z) vwCl 211 (za Z) (tysX Z)) {res : Int32 × SG}   : ∀ (σ : SG) (p0 : Int32) (p1 : Int32) , m_X11_price_0    σ p0 p1 = some res → ∀ (H : Heap) (locs : List Loc), ws_P (zD Z) vwCl 211 (za Z) (tX Z) σ H → va_S (ws_A 211 (za Z)) s.heap H locs → ∀ (ls : Array Slot), lv_has ls 4 [(0, .ref (za Z 155)), (1, .int p0), (2, .int p1)] → W p l e rm_X11_price s m args below meth c H locs 0 0 (MQ below (xQi E (zD Z) vwCl 211 (za Z) (tX Z) (tysX Z) res) args s 0 0 (ws_A 211 (za Z))) (F0 m 0 ls []) := by
  have C0 := C
  obtain ⟨hx, hb, hr, hlocks, hml, hown, hts, hE, hJ, hK⟩ := C0
  intro σ p0 p1  h H locs hP hS ls hl
  unfold m_X11_price_0 at h
  refine lv_iload_n hx hb dX11_price_0 rfl (lv_at hl 1 rfl) ?_
  refine lv_if_lt (tgt := 10) hx hb dX11_price_1 (by decide) (fun q1 => ?_) (fun q1 => ?_)
  · have h := if_p h q1
    refine lv_iconst (v := (-1)) hx hb dX11_price_10 (by decide) ?_
    exact xr_iret hx hb hr hlocks hE hJ hK hP hS h dX11_price_11
  · have h := if_n h q1
    refine lv_iload_n hx hb dX11_price_4 rfl (lv_at hl 1 rfl) ?_
    refine lv_bipush (v := 8) hx hb dX11_price_5 (by decide) ?_
    refine lv_icmp_lt (tgt := 12) hx hb dX11_price_7 (by decide) (fun q2 => ?_) (fun q2 => ?_)
    · have h := if_p h q2
      refine lv_iload_n hx hb dX11_price_12 rfl (lv_at hl 2 rfl) ?_
      refine lv_if_lt (tgt := 23) hx hb dX11_price_13 (by decide) (fun q3 => ?_) (fun q3 => ?_)
      · have h := if_p h q3
        refine lv_bipush (v := (-2)) hx hb dX11_price_23 (by decide) ?_
        exact xr_iret hx hb hr hlocks hE hJ hK hP hS h dX11_price_25
      · have h := if_n h q3
        refine lv_iload_n hx hb dX11_price_16 rfl (lv_at hl 2 rfl) ?_
        refine lv_sipush (v := 1000) hx hb dX11_price_17 (by decide) ?_
        refine lv_icmp_le (tgt := 26) hx hb dX11_price_20 (by decide) (fun q4 => ?_) (fun q4 => ?_)
        · have h := if_p h q4
          refine lv_aload_n hx hb dX11_price_26 rfl (lv_at hl 0 rfl) ?_
          refine wr_get (C := RX11) (T := TX11) (N := 16) hx hb hts (in_X11_price_X11) hown hK hP (k := 155) (by decide) ((tX_TuneSearch Z) _ _ _) rfl 3 (by decide) (hts (.fieldLink RX11 22 "TuneSearch" "prices" "[I") (by decide +kernel)) (fun _ h9 => h9) rfl dX11_price_27 ?_
          refine lv_iload_n hx hb dX11_price_30 rfl (lv_at hl 1 rfl) ?_
          obtain ⟨b5, h⟩ := gB_e h
          refine wr_iald hx hb hK hP (k := 18) (by decide) 0 ((tX_I Z 18 (by decide)) _ _ _) rfl b5 dX11_price_31 ?_
          refine lv_topi (fun v6 e7 => ?_)
          have h := lS_u h e7
          refine lv_istore_n (lv' := [(3, .int v6), (0, .ref (za Z 155)), (1, .int p0), (2, .int p1)]) hx hb dX11_price_32 rfl hl (by decide) rfl (fun ls hl => ?_)
          refine lv_aload_n hx hb dX11_price_33 rfl (lv_at hl 1 rfl) ?_
          refine wr_get (C := RX11) (T := TX11) (N := 16) hx hb hts (in_X11_price_X11) hown hK hP (k := 155) (by decide) ((tX_TuneSearch Z) _ _ _) rfl 3 (by decide) (hts (.fieldLink RX11 22 "TuneSearch" "prices" "[I") (by decide +kernel)) (fun _ h9 => h9) rfl dX11_price_34 ?_
          refine lv_iload_n hx hb dX11_price_37 rfl (lv_at hl 2 rfl) ?_
          refine lv_iload_n hx hb dX11_price_38 rfl (lv_at hl 3 rfl) ?_
          obtain ⟨b8, h⟩ := gB_e h
          refine wr_iast hx hb hK hP hJ hS (k := 18) (by decide) 0 (tX_I Z 18 (by decide)) rfl b8 dX11_price_39 (fun H locs hP hS => ?_)
          obtain ⟨σ9, e10, h⟩ := lS_e h
          rw [← e10] at hP
          refine lv_iload_n hx hb dX11_price_40 rfl (lv_at hl 0 rfl) ?_
          exact xr_iret hx hb hr hlocks hE hJ hK hP hS h dX11_price_41
        · have h := if_n h q4
          refine lv_bipush (v := (-2)) hx hb dX11_price_23 (by decide) ?_
          exact xr_iret hx hb hr hlocks hE hJ hK hP hS h dX11_price_25
    · have h := if_n h q2
      refine lv_iconst (v := (-1)) hx hb dX11_price_10 (by decide) ?_
      exact xr_iret hx hb hr hlocks hE hJ hK hP hS h dX11_price_11
def m_X11_price   (σ : SG) (p0 : Int32) (p1 : Int32) : Option (Int32 × SG) := m_X11_price_0   σ p0 p1
set_option maxHeartbeats 4000000 in
set_option maxRecDepth 100000 in
theorem k_X11_price (l : Launch) {E : EF} (Z : ZT)    (σ : SG) (p0 : Int32) (p1 : Int32) {res : Int32 × SG} (h : m_X11_price   σ p0 p1 = some res) : Met l yX11_price wsX11_price rm_X11_price (va_Pc [.ref (za Z 155), .int p0, .int p1] (wx E (zD Z) vwCl 211 (za Z) (tX Z) (tysX Z) σ)) (xQi E (zD Z) vwCl 211 (za Z) (tX Z) (tysX Z) res) 0 0 (ws_A 211 (za Z)) := by
  refine Met.ofW (cc := cX11_price) (maxL := 4) (ret := (some .int)) (by decide) rfl ?_
  intro p e s m args below meth c s₁ B hml hv
  obtain ⟨rfl, hE, hJ, hP, hK⟩ := hv
  have hl := lv_entry ([.ref (za Z 155), .int p0, .int p1]) (n := 4) (Nat.le_of_ble_eq_true rfl)
  rw [lg_entry_eq]
  generalize (lg_sl ([.ref (za Z 155), .int p0, .int p1]) ++ List.replicate (4 - (lg_sl ([.ref (za Z 155), .int p0, .int p1])).length) Slot.unset).toArray = ls at hl ⊢
  exact kb_X11_price_0 Z    ⟨B.exec, B.bytes, B.returns, B.notSynchronized, hml, findClass_of_methodNamed B.named, atoms_spec (ws := wsX11_price) B.pre, hE, hJ, hK⟩ σ p0 p1 h s.heap [] hP va_S.rf ls hl
/-! TuneSearch.type(JI)I -/
abbrev rm_X11_type : Room := { frames := 1, cells := 0, slots := 0, locals := 24 }
theorem in_X11_type_X7 : ∀ w ∈ wsX70, w ∈ wsX11_type := by decide +kernel
theorem in_X11_type_X11 : ∀ w ∈ wsX110, w ∈ wsX11_type := by decide +kernel
def m_X11_type_0    (σ : SG) (p0 : Int64) (p1 : Int32) : Option (Int32 × SG) :=
  if p1 < 1 then (some ((-2), σ)) else (if p1 ≤ 8 then (bi (m_X7_hasRoomFor  σ p1) (fun v3 σ4 => if ¬ v3 = 0 then (bi (m_X7_append  σ4 p0 p1) (fun v7 σ8 => some (σ8.1 165 1, σ8))) else (some ((-3), σ4)))) else (some ((-2), σ)))
set_option maxHeartbeats 4000000 in
set_option maxRecDepth 100000 in
theorem kb_X11_type_0 {p : Program} {l : Launch} {e : Env} {s : State} {m : MethodId} {args : Array Value} {below : List Frame} {meth : Method} {c : Code} {E : EF} (Z : ZT)    (C : cy p s m args meth c cX11_type (some .int) 4 RX11 wsX11_type E (zD Z) vwCl 211 (za Z) (tysX Z)) {res : Int32 × SG}   : ∀ (σ : SG) (p0 : Int64) (p1 : Int32) , m_X11_type_0    σ p0 p1 = some res → ∀ (H : Heap) (locs : List Loc), ws_P (zD Z) vwCl 211 (za Z) (tX Z) σ H → va_S (ws_A 211 (za Z)) s.heap H locs → ∀ (ls : Array Slot), lv_has ls 4 [(0, .ref (za Z 155)), (1, .long p0), (3, .int p1)] → W p l e rm_X11_type s m args below meth c H locs 0 0 (MQ below (xQi E (zD Z) vwCl 211 (za Z) (tX Z) (tysX Z) res) args s 0 0 (ws_A 211 (za Z))) (F0 m 0 ls []) := by
  have C0 := C
  obtain ⟨hx, hb, hr, hlocks, hml, hown, hts, hE, hJ, hK⟩ := C0
  intro σ p0 p1  h H locs hP hS ls hl
  unfold m_X11_type_0 at h
  refine lv_iload_n hx hb dX11_type_0 rfl (lv_at hl 2 rfl) ?_
  refine lv_iconst (v := 1) hx hb dX11_type_1 (by decide) ?_
  refine lv_icmp_lt (tgt := 11) hx hb dX11_type_2 (by decide) (fun q1 => ?_) (fun q1 => ?_)
  · have h := if_p h q1
    refine lv_bipush (v := (-2)) hx hb dX11_type_11 (by decide) ?_
    exact xr_iret hx hb hr hlocks hE hJ hK hP hS h dX11_type_13
  · have h := if_n h q1
    refine lv_iload_n hx hb dX11_type_5 rfl (lv_at hl 2 rfl) ?_
    refine lv_bipush (v := 8) hx hb dX11_type_6 (by decide) ?_
    refine lv_icmp_le (tgt := 14) hx hb dX11_type_8 (by decide) (fun q2 => ?_) (fun q2 => ?_)
    · have h := if_p h q2
      refine lv_aload_n hx hb dX11_type_14 rfl (lv_at hl 0 rfl) ?_
      refine wr_get (C := RX11) (T := TX11) (N := 16) hx hb hts (in_X11_type_X11) hown hK hP (k := 155) (by decide) ((tX_TuneSearch Z) _ _ _) rfl 4 (by decide) (hts (.fieldLink RX11 35 "TuneSearch" "tape" "LTuneSearch$Tape;") (by decide +kernel)) (fun _ h9 => h9) rfl dX11_type_15 ?_
      refine lv_iload_n hx hb dX11_type_18 rfl (lv_at hl 2 rfl) ?_
      obtain ⟨v3, σ4, hm5, h⟩ := bi_e h
      refine xr_calli (res := (v3, σ4)) (va_runV (As := [.int p1]) (rest := []) ⟨hx, hb, hml, hown, hts⟩ (k_X7_hasRoomFor l Z   σ p1 hm5) (cwV 1 hts gX11_type_X7_hasRoomFor rfl rfl rfl (by decide +kernel) ⟨Nat.le_of_ble_eq_true rfl, Nat.le_of_ble_eq_true rfl⟩) ⟨wx_blind, wr_recv hK hP (k := 165) (by decide) ((tX_Tape Z) _ _ _) rfl, fun U hU hW => ⟨rfl, wx_at hE hJ hP hK hS hU hW⟩⟩ rfl rfl hl.1 rfl (lv_room (Nat.le_of_ble_eq_true rfl)) dX11_type_19 ⟨Nat.le_of_ble_eq_true rfl, Nat.le_of_ble_eq_true rfl⟩) hS (fun H locs hP hS => ?_)
      have hP : ws_P (zD Z) vwCl 211 (za Z) (tX Z) σ4 H := hP
      refine lv_if_ne (tgt := 28) hx hb dX11_type_22 (by decide) (fun q6 => ?_) (fun q6 => ?_)
      · have h := if_p h q6
        refine lv_aload_n hx hb dX11_type_28 rfl (lv_at hl 0 rfl) ?_
        refine wr_get (C := RX11) (T := TX11) (N := 16) hx hb hts (in_X11_type_X11) hown hK hP (k := 155) (by decide) ((tX_TuneSearch Z) _ _ _) rfl 4 (by decide) (hts (.fieldLink RX11 35 "TuneSearch" "tape" "LTuneSearch$Tape;") (by decide +kernel)) (fun _ h9 => h9) rfl dX11_type_29 ?_
        refine lv_lload_n hx hb dX11_type_32 rfl (lv_at hl 1 rfl) ?_
        refine lv_iload_n hx hb dX11_type_33 rfl (lv_at hl 2 rfl) ?_
        obtain ⟨v7, σ8, hm9, h⟩ := bi_e h
        refine xr_callv (res := (v7, σ8)) (va_runV (As := [.long p0, .int p1]) (rest := []) ⟨hx, hb, hml, hown, hts⟩ (k_X7_append l Z   σ4 p0 p1 hm9) (cwV 2 hts gX11_type_X7_append rfl rfl rfl (by decide +kernel) ⟨Nat.le_of_ble_eq_true rfl, Nat.le_of_ble_eq_true rfl⟩) ⟨wx_blind, wr_recv hK hP (k := 165) (by decide) ((tX_Tape Z) _ _ _) rfl, fun U hU hW => ⟨rfl, wx_at hE hJ hP hK hS hU hW⟩⟩ rfl rfl hl.1 rfl (lv_room (Nat.le_of_ble_eq_true rfl)) dX11_type_34 ⟨Nat.le_of_ble_eq_true rfl, Nat.le_of_ble_eq_true rfl⟩) hS (fun H locs hP hS => ?_)
        have hP : ws_P (zD Z) vwCl 211 (za Z) (tX Z) σ8 H := hP
        refine lv_aload_n hx hb dX11_type_37 rfl (lv_at hl 0 rfl) ?_
        refine wr_get (C := RX11) (T := TX11) (N := 16) hx hb hts (in_X11_type_X11) hown hK hP (k := 155) (by decide) ((tX_TuneSearch Z) _ _ _) rfl 4 (by decide) (hts (.fieldLink RX11 35 "TuneSearch" "tape" "LTuneSearch$Tape;") (by decide +kernel)) (fun _ h9 => h9) rfl dX11_type_38 ?_
        refine wr_get (C := RX7) (T := TX7) (N := 2) hx hb hts (in_X11_type_X7) hown hK hP (k := 165) (by decide) ((tX_Tape Z) _ _ _) rfl 1 (by decide) (hts (.fieldLink RX11 109 "TuneSearch$Tape" "count" "I") (by decide +kernel)) (fun _ h9 => h9) rfl dX11_type_41 ?_
        exact xr_iret hx hb hr hlocks hE hJ hK hP hS h dX11_type_44
      · have h := if_n h (fun z => z q6)
        refine lv_bipush (v := (-3)) hx hb dX11_type_25 (by decide) ?_
        exact xr_iret hx hb hr hlocks hE hJ hK hP hS h dX11_type_27
    · have h := if_n h q2
      refine lv_bipush (v := (-2)) hx hb dX11_type_11 (by decide) ?_
      exact xr_iret hx hb hr hlocks hE hJ hK hP hS h dX11_type_13
def m_X11_type   (σ : SG) (p0 : Int64) (p1 : Int32) : Option (Int32 × SG) := m_X11_type_0   σ p0 p1
set_option maxHeartbeats 4000000 in
set_option maxRecDepth 100000 in
theorem k_X11_type (l : Launch) {E : EF} (Z : ZT)    (σ : SG) (p0 : Int64) (p1 : Int32) {res : Int32 × SG} (h : m_X11_type   σ p0 p1 = some res) : Met l yX11_type wsX11_type rm_X11_type (va_Pc [.ref (za Z 155), .long p0, .int p1] (wx E (zD Z) vwCl 211 (za Z) (tX Z) (tysX Z) σ)) (xQi E (zD Z) vwCl 211 (za Z) (tX Z) (tysX Z) res) 0 0 (ws_A 211 (za Z)) := by
  refine Met.ofW (cc := cX11_type) (maxL := 4) (ret := (some .int)) (by decide) rfl ?_
  intro p e s m args below meth c s₁ B hml hv
  obtain ⟨rfl, hE, hJ, hP, hK⟩ := hv
  have hl := lv_entry ([.ref (za Z 155), .long p0, .int p1]) (n := 4) (Nat.le_of_ble_eq_true rfl)
  rw [lg_entry_eq]
  generalize (lg_sl ([.ref (za Z 155), .long p0, .int p1]) ++ List.replicate (4 - (lg_sl ([.ref (za Z 155), .long p0, .int p1])).length) Slot.unset).toArray = ls at hl ⊢
  exact kb_X11_type_0 Z    ⟨B.exec, B.bytes, B.returns, B.notSynchronized, hml, findClass_of_methodNamed B.named, atoms_spec (ws := wsX11_type) B.pre, hE, hJ, hK⟩ σ p0 p1 h s.heap [] hP va_S.rf ls hl
/-! TuneSearch.word()I -/
abbrev rm_X11_word : Room := { frames := 6, cells := 0, slots := 0, locals := 138 }
theorem in_X11_word_X7 : ∀ w ∈ wsX70, w ∈ wsX11_word := by decide +kernel
theorem in_X11_word_X9 : ∀ w ∈ wsX90, w ∈ wsX11_word := by decide +kernel
theorem in_X11_word_X10 : ∀ w ∈ wsX100, w ∈ wsX11_word := by decide +kernel
theorem in_X11_word_X11 : ∀ w ∈ wsX110, w ∈ wsX11_word := by decide +kernel
def m_X11_word_0    (σ : SG)  : Option (Int32 × SG) :=
  gB (ltB (σ.2.2 155 7) 2) (bi (m_X10_read (σ.2.2 155 7) σ ) (fun v3 σ4 => lS (sI σ4 155 9 v3) (fun σ6 => lS (sI σ6 165 1 0) (fun σ8 => if (σ8.1 155 9) = 0 then (gB (ltB (σ8.2.2 155 6) 2) (gB (ltB (σ8.2.2 155 7) 2) (lS (sR σ8 155 6 (σ8.2.2 155 7)) (fun σ15 => lS (sR σ15 155 7 (σ8.2.2 155 6)) (fun σ17 => lS (sI σ17 155 8 1) (fun σ19 => gB (ltB (σ19.2.2 155 6) 2) (some (σ19.1 (203 + (σ19.2.2 155 6)) 0, σ19)))))))) else (some ((-10) - (σ8.1 166 0), σ8))))))
set_option maxHeartbeats 4000000 in
set_option maxRecDepth 100000 in
theorem kb_X11_word_0 {p : Program} {l : Launch} {e : Env} {s : State} {m : MethodId} {args : Array Value} {below : List Frame} {meth : Method} {c : Code} {E : EF} (Z : ZT)    (C : cy p s m args meth c cX11_word (some .int) 2 RX11 wsX11_word E (zD Z) vwCl 211 (za Z) (tysX Z)) {res : Int32 × SG}   : ∀ (σ : SG)  , m_X11_word_0    σ  = some res → ∀ (H : Heap) (locs : List Loc), ws_P (zD Z) vwCl 211 (za Z) (tX Z) σ H → va_S (ws_A 211 (za Z)) s.heap H locs → ∀ (ls : Array Slot), lv_has ls 2 [(0, .ref (za Z 155))] → W p l e rm_X11_word s m args below meth c H locs 0 0 (MQ below (xQi E (zD Z) vwCl 211 (za Z) (tX Z) (tysX Z) res) args s 0 0 (ws_A 211 (za Z))) (F0 m 0 ls []) := by
  have C0 := C
  obtain ⟨hx, hb, hr, hlocks, hml, hown, hts, hE, hJ, hK⟩ := C0
  intro σ   h H locs hP hS ls hl
  unfold m_X11_word_0 at h
  refine lv_aload_n hx hb dX11_word_0 rfl (lv_at hl 0 rfl) ?_
  refine lv_aload_n hx hb dX11_word_1 rfl (lv_at hl 0 rfl) ?_
  refine wr_get (C := RX11) (T := TX11) (N := 16) hx hb hts (in_X11_word_X11) hown hK hP (k := 155) (by decide) ((tX_TuneSearch Z) _ _ _) rfl 5 (by decide) (hts (.fieldLink RX11 42 "TuneSearch" "reader" "LTuneSearch$WordReader;") (by decide +kernel)) (fun _ h9 => h9) rfl dX11_word_2 ?_
  refine lv_aload_n hx hb dX11_word_5 rfl (lv_at hl 0 rfl) ?_
  refine wr_get (C := RX11) (T := TX11) (N := 16) hx hb hts (in_X11_word_X11) hown hK hP (k := 155) (by decide) ((tX_TuneSearch Z) _ _ _) rfl 4 (by decide) (hts (.fieldLink RX11 35 "TuneSearch" "tape" "LTuneSearch$Tape;") (by decide +kernel)) (fun _ h9 => h9) rfl dX11_word_6 ?_
  refine lv_aload_n hx hb dX11_word_9 rfl (lv_at hl 0 rfl) ?_
  refine wr_get (C := RX11) (T := TX11) (N := 16) hx hb hts (in_X11_word_X11) hown hK hP (k := 155) (by decide) ((tX_TuneSearch Z) _ _ _) rfl 7 (by decide) (hts (.fieldLink RX11 53 "TuneSearch" "spare" "LTuneSearch$Word;") (by decide +kernel)) (fun _ h9 => h9) rfl dX11_word_10 ?_
  obtain ⟨b1, h⟩ := gB_e h
  have hd2 := ltB_e b1
  obtain ⟨v3, σ4, hm5, h⟩ := bi_e h
  refine xr_calli (res := (v3, σ4)) (va_runV (As := [.ref (za Z 165), .ref (za Z (203 + (σ.2.2 155 7)))]) (rest := [.ref (za Z 155)]) ⟨hx, hb, hml, hown, hts⟩ (k_X10_read l Z (σ.2.2 155 7) hd2 σ  hm5) (cwV 2 hts gX11_word_X10_read rfl rfl rfl (by decide +kernel) ⟨Nat.le_of_ble_eq_true rfl, Nat.le_of_ble_eq_true rfl⟩) ⟨wx_blind, wr_recv hK hP (k := 166) (by decide) ((tX_WordReader Z) _ _ _) rfl, fun U hU hW => ⟨rfl, wx_at hE hJ hP hK hS hU hW⟩⟩ rfl rfl hl.1 rfl (lv_room (Nat.le_of_ble_eq_true rfl)) dX11_word_13 ⟨Nat.le_of_ble_eq_true rfl, Nat.le_of_ble_eq_true rfl⟩) hS (fun H locs hP hS => ?_)
  have hP : ws_P (zD Z) vwCl 211 (za Z) (tX Z) σ4 H := hP
  refine wr_put (C := RX11) (T := TX11) (N := 16) (σ' := sI σ4 155 9 v3) (ty := .int) hx hb hts (in_X11_word_X11) tyX11 tyX11_ok nmX11 hown hK hP hJ hS (k := 155) (by decide) ((tX_TuneSearch Z) _ _ _) rfl 9 (by decide) (hts (.fieldLink RX11 114 "TuneSearch" "latestFault" "I") (by decide +kernel)) (fun _ h9 => h9) rfl (by decide +kernel) rfl rfl (Nat.le_of_ble_eq_true rfl) (ws_pI (tX_TuneSearch Z) rfl) dX11_word_16 (fun H locs hP hS => ?_)
  obtain ⟨σ6, e7, h⟩ := lS_e h
  rw [← e7] at hP
  refine lv_aload_n hx hb dX11_word_19 rfl (lv_at hl 0 rfl) ?_
  refine wr_get (C := RX11) (T := TX11) (N := 16) hx hb hts (in_X11_word_X11) hown hK hP (k := 155) (by decide) ((tX_TuneSearch Z) _ _ _) rfl 4 (by decide) (hts (.fieldLink RX11 35 "TuneSearch" "tape" "LTuneSearch$Tape;") (by decide +kernel)) (fun _ h9 => h9) rfl dX11_word_20 ?_
  refine lv_iconst (v := 0) hx hb dX11_word_23 (by decide) ?_
  refine wr_put (C := RX7) (T := TX7) (N := 2) (σ' := sI σ6 165 1 0) (ty := .int) hx hb hts (in_X11_word_X7) tyX7 tyX7_ok nmX7 hown hK hP hJ hS (k := 165) (by decide) ((tX_Tape Z) _ _ _) rfl 1 (by decide) (hts (.fieldLink RX11 109 "TuneSearch$Tape" "count" "I") (by decide +kernel)) (fun _ h9 => h9) rfl (by decide +kernel) rfl rfl (Nat.le_of_ble_eq_true rfl) (ws_pI (tX_Tape Z) rfl) dX11_word_24 (fun H locs hP hS => ?_)
  obtain ⟨σ8, e9, h⟩ := lS_e h
  rw [← e9] at hP
  refine lv_aload_n hx hb dX11_word_27 rfl (lv_at hl 0 rfl) ?_
  refine wr_get (C := RX11) (T := TX11) (N := 16) hx hb hts (in_X11_word_X11) hown hK hP (k := 155) (by decide) ((tX_TuneSearch Z) _ _ _) rfl 9 (by decide) (hts (.fieldLink RX11 114 "TuneSearch" "latestFault" "I") (by decide +kernel)) (fun _ h9 => h9) rfl dX11_word_28 ?_
  refine lv_if_eq (tgt := 45) hx hb dX11_word_31 (by decide) (fun q10 => ?_) (fun q10 => ?_)
  · have h := if_p h q10
    refine lv_aload_n hx hb dX11_word_45 rfl (lv_at hl 0 rfl) ?_
    refine wr_get (C := RX11) (T := TX11) (N := 16) hx hb hts (in_X11_word_X11) hown hK hP (k := 155) (by decide) ((tX_TuneSearch Z) _ _ _) rfl 6 (by decide) (hts (.fieldLink RX11 49 "TuneSearch" "current" "LTuneSearch$Word;") (by decide +kernel)) (fun _ h9 => h9) rfl dX11_word_46 ?_
    obtain ⟨b11, h⟩ := gB_e h
    have hd12 := ltB_e b11
    refine lv_astore_n (lv' := [(1, .ref (za Z (203 + (σ8.2.2 155 6)))), (0, .ref (za Z 155))]) hx hb dX11_word_49 rfl hl (by decide) rfl (fun ls hl => ?_)
    refine lv_aload_n hx hb dX11_word_50 rfl (lv_at hl 1 rfl) ?_
    refine lv_aload_n hx hb dX11_word_51 rfl (lv_at hl 1 rfl) ?_
    refine wr_get (C := RX11) (T := TX11) (N := 16) hx hb hts (in_X11_word_X11) hown hK hP (k := 155) (by decide) ((tX_TuneSearch Z) _ _ _) rfl 7 (by decide) (hts (.fieldLink RX11 53 "TuneSearch" "spare" "LTuneSearch$Word;") (by decide +kernel)) (fun _ h9 => h9) rfl dX11_word_52 ?_
    obtain ⟨b13, h⟩ := gB_e h
    have hd14 := ltB_e b13
    refine wr_put (C := RX11) (T := TX11) (N := 16) (σ' := sR σ8 155 6 (σ8.2.2 155 7)) (ty := .object "TuneSearch$Word") hx hb hts (in_X11_word_X11) tyX11 tyX11_ok nmX11 hown hK hP hJ hS (k := 155) (by decide) ((tX_TuneSearch Z) _ _ _) rfl 6 (by decide) (hts (.fieldLink RX11 49 "TuneSearch" "current" "LTuneSearch$Word;") (by decide +kernel)) (fun _ h9 => h9) rfl (by decide +kernel) rfl rfl (Nat.le_of_ble_eq_true rfl) (ws_pR (tX_TuneSearch Z) rfl) dX11_word_55 (fun H locs hP hS => ?_)
    obtain ⟨σ15, e16, h⟩ := lS_e h
    rw [← e16] at hP
    refine lv_aload_n hx hb dX11_word_58 rfl (lv_at hl 1 rfl) ?_
    refine lv_aload_n hx hb dX11_word_59 rfl (lv_at hl 0 rfl) ?_
    refine wr_put (C := RX11) (T := TX11) (N := 16) (σ' := sR σ15 155 7 (σ8.2.2 155 6)) (ty := .object "TuneSearch$Word") hx hb hts (in_X11_word_X11) tyX11 tyX11_ok nmX11 hown hK hP hJ hS (k := 155) (by decide) ((tX_TuneSearch Z) _ _ _) rfl 7 (by decide) (hts (.fieldLink RX11 53 "TuneSearch" "spare" "LTuneSearch$Word;") (by decide +kernel)) (fun _ h9 => h9) rfl (by decide +kernel) rfl rfl (Nat.le_of_ble_eq_true rfl) (ws_pR (tX_TuneSearch Z) rfl) dX11_word_60 (fun H locs hP hS => ?_)
    obtain ⟨σ17, e18, h⟩ := lS_e h
    rw [← e18] at hP
    refine lv_aload_n hx hb dX11_word_63 rfl (lv_at hl 1 rfl) ?_
    refine lv_iconst (v := 1) hx hb dX11_word_64 (by decide) ?_
    refine wr_put (C := RX11) (T := TX11) (N := 16) (σ' := sI σ17 155 8 1) (ty := .boolean) hx hb hts (in_X11_word_X11) tyX11 tyX11_ok nmX11 hown hK hP hJ hS (k := 155) (by decide) ((tX_TuneSearch Z) _ _ _) rfl 8 (by decide) (hts (.fieldLink RX11 120 "TuneSearch" "hasWord" "Z") (by decide +kernel)) (fun _ h9 => h9) rfl (by decide +kernel) rfl rfl (Nat.le_of_ble_eq_true rfl) (ws_pI (tX_TuneSearch Z) rfl) dX11_word_65 (fun H locs hP hS => ?_)
    obtain ⟨σ19, e20, h⟩ := lS_e h
    rw [← e20] at hP
    refine lv_aload_n hx hb dX11_word_68 rfl (lv_at hl 1 rfl) ?_
    refine wr_get (C := RX11) (T := TX11) (N := 16) hx hb hts (in_X11_word_X11) hown hK hP (k := 155) (by decide) ((tX_TuneSearch Z) _ _ _) rfl 6 (by decide) (hts (.fieldLink RX11 49 "TuneSearch" "current" "LTuneSearch$Word;") (by decide +kernel)) (fun _ h9 => h9) rfl dX11_word_69 ?_
    obtain ⟨b21, h⟩ := gB_e h
    have hd22 := ltB_e b21
    refine wr_get (C := RX9) (T := TX9) (N := 8) hx hb hts (in_X11_word_X9) hown hK hP (k := (203 + (σ19.2.2 155 6))) (by omega) ((tX_Word Z (σ19.2.2 155 6) hd22) _ _ _) rfl 0 (by decide) (hts (.fieldLink RX11 124 "TuneSearch$Word" "atoms" "I") (by decide +kernel)) (fun _ h9 => h9) rfl dX11_word_72 ?_
    exact xr_iret hx hb hr hlocks hE hJ hK hP hS h dX11_word_75
  · have h := if_n h q10
    refine lv_bipush (v := (-10)) hx hb dX11_word_34 (by decide) ?_
    refine lv_aload_n hx hb dX11_word_36 rfl (lv_at hl 0 rfl) ?_
    refine wr_get (C := RX11) (T := TX11) (N := 16) hx hb hts (in_X11_word_X11) hown hK hP (k := 155) (by decide) ((tX_TuneSearch Z) _ _ _) rfl 5 (by decide) (hts (.fieldLink RX11 42 "TuneSearch" "reader" "LTuneSearch$WordReader;") (by decide +kernel)) (fun _ h9 => h9) rfl dX11_word_37 ?_
    refine wr_get (C := RX10) (T := TX10) (N := 9) hx hb hts (in_X11_word_X10) hown hK hP (k := 166) (by decide) ((tX_WordReader Z) _ _ _) rfl 0 (by decide) (hts (.fieldLink RX11 117 "TuneSearch$WordReader" "place" "I") (by decide +kernel)) (fun _ h9 => h9) rfl dX11_word_40 ?_
    refine lv_isub hx hb dX11_word_43 ?_
    exact xr_iret hx hb hr hlocks hE hJ hK hP hS h dX11_word_44
def m_X11_word   (σ : SG)  : Option (Int32 × SG) := m_X11_word_0   σ 
set_option maxHeartbeats 4000000 in
set_option maxRecDepth 100000 in
theorem k_X11_word (l : Launch) {E : EF} (Z : ZT)    (σ : SG)  {res : Int32 × SG} (h : m_X11_word   σ  = some res) : Met l yX11_word wsX11_word rm_X11_word (va_Pc [.ref (za Z 155)] (wx E (zD Z) vwCl 211 (za Z) (tX Z) (tysX Z) σ)) (xQi E (zD Z) vwCl 211 (za Z) (tX Z) (tysX Z) res) 0 0 (ws_A 211 (za Z)) := by
  refine Met.ofW (cc := cX11_word) (maxL := 2) (ret := (some .int)) (by decide) rfl ?_
  intro p e s m args below meth c s₁ B hml hv
  obtain ⟨rfl, hE, hJ, hP, hK⟩ := hv
  have hl := lv_entry ([.ref (za Z 155)]) (n := 2) (Nat.le_of_ble_eq_true rfl)
  rw [lg_entry_eq]
  generalize (lg_sl ([.ref (za Z 155)]) ++ List.replicate (2 - (lg_sl ([.ref (za Z 155)])).length) Slot.unset).toArray = ls at hl ⊢
  exact kb_X11_word_0 Z    ⟨B.exec, B.bytes, B.returns, B.notSynchronized, hml, findClass_of_methodNamed B.named, atoms_spec (ws := wsX11_word) B.pre, hE, hJ, hK⟩ σ  h s.heap [] hP va_S.rf ls hl
/-! TuneSearch.fault()I -/
abbrev rm_X11_fault : Room := { frames := 0, cells := 0, slots := 0, locals := 0 }
theorem in_X11_fault_X11 : ∀ w ∈ wsX110, w ∈ wsX11_fault := by decide +kernel
def m_X11_fault_0    (σ : SG)  : Option (Int32 × SG) :=
  some (σ.1 155 9, σ)
set_option maxHeartbeats 4000000 in
set_option maxRecDepth 100000 in
theorem kb_X11_fault_0 {p : Program} {l : Launch} {e : Env} {s : State} {m : MethodId} {args : Array Value} {below : List Frame} {meth : Method} {c : Code} {E : EF} (Z : ZT)    (C : cy p s m args meth c cX11_fault (some .int) 1 RX11 wsX11_fault E (zD Z) vwCl 211 (za Z) (tysX Z)) {res : Int32 × SG}   : ∀ (σ : SG)  , m_X11_fault_0    σ  = some res → ∀ (H : Heap) (locs : List Loc), ws_P (zD Z) vwCl 211 (za Z) (tX Z) σ H → va_S (ws_A 211 (za Z)) s.heap H locs → ∀ (ls : Array Slot), lv_has ls 1 [(0, .ref (za Z 155))] → W p l e rm_X11_fault s m args below meth c H locs 0 0 (MQ below (xQi E (zD Z) vwCl 211 (za Z) (tX Z) (tysX Z) res) args s 0 0 (ws_A 211 (za Z))) (F0 m 0 ls []) := by
  have C0 := C
  obtain ⟨hx, hb, hr, hlocks, hml, hown, hts, hE, hJ, hK⟩ := C0
  intro σ   h H locs hP hS ls hl
  unfold m_X11_fault_0 at h
  refine lv_aload_n hx hb dX11_fault_0 rfl (lv_at hl 0 rfl) ?_
  refine wr_get (C := RX11) (T := TX11) (N := 16) hx hb hts (in_X11_fault_X11) hown hK hP (k := 155) (by decide) ((tX_TuneSearch Z) _ _ _) rfl 9 (by decide) (hts (.fieldLink RX11 114 "TuneSearch" "latestFault" "I") (by decide +kernel)) (fun _ h9 => h9) rfl dX11_fault_1 ?_
  exact xr_iret hx hb hr hlocks hE hJ hK hP hS h dX11_fault_4
def m_X11_fault   (σ : SG)  : Option (Int32 × SG) := m_X11_fault_0   σ 
set_option maxHeartbeats 4000000 in
set_option maxRecDepth 100000 in
theorem k_X11_fault (l : Launch) {E : EF} (Z : ZT)    (σ : SG)  {res : Int32 × SG} (h : m_X11_fault   σ  = some res) : Met l yX11_fault wsX11_fault rm_X11_fault (va_Pc [.ref (za Z 155)] (wx E (zD Z) vwCl 211 (za Z) (tX Z) (tysX Z) σ)) (xQi E (zD Z) vwCl 211 (za Z) (tX Z) (tysX Z) res) 0 0 (ws_A 211 (za Z)) := by
  refine Met.ofW (cc := cX11_fault) (maxL := 1) (ret := (some .int)) (by decide) rfl ?_
  intro p e s m args below meth c s₁ B hml hv
  obtain ⟨rfl, hE, hJ, hP, hK⟩ := hv
  have hl := lv_entry ([.ref (za Z 155)]) (n := 1) (Nat.le_of_ble_eq_true rfl)
  rw [lg_entry_eq]
  generalize (lg_sl ([.ref (za Z 155)]) ++ List.replicate (1 - (lg_sl ([.ref (za Z 155)])).length) Slot.unset).toArray = ls at hl ⊢
  exact kb_X11_fault_0 Z    ⟨B.exec, B.bytes, B.returns, B.notSynchronized, hml, findClass_of_methodNamed B.named, atoms_spec (ws := wsX11_fault) B.pre, hE, hJ, hK⟩ σ  h s.heap [] hP va_S.rf ls hl
/-! TuneSearch.findInTune(II)V -/
abbrev rm_X11_findInTune : Room := { frames := 5, cells := 0, slots := 0, locals := 110 }
theorem in_X11_findInTune_X6 : ∀ w ∈ wsX60, w ∈ wsX11_findInTune := by decide +kernel
theorem in_X11_findInTune_X11 : ∀ w ∈ wsX110, w ∈ wsX11_findInTune := by decide +kernel
def m_X11_findInTune_66   (c27 : SG → Int32 → Int32 → Option (Unit × SG)) (σ : SG) (l1 : Int32) (l3 : Int32) : Option (Unit × SG) :=
  lS (l3 + 1) (fun v22 => c27 σ l1 v22)
set_option maxHeartbeats 4000000 in
set_option maxRecDepth 100000 in
theorem kb_X11_findInTune_66 {p : Program} {l : Launch} {e : Env} {s : State} {m : MethodId} {args : Array Value} {below : List Frame} {meth : Method} {c : Code} {E : EF} (Z : ZT)    (C : cy p s m args meth c cX11_findInTune none 5 RX11 wsX11_findInTune E (zD Z) vwCl 211 (za Z) (tysX Z)) {res : Unit × SG} {c27 : SG → Int32 → Int32 → Option (Unit × SG)} (hc27 : ∀ (σ : SG) (l1 : Int32) (l3 : Int32) , c27 σ l1 l3 = some res → ∀ (H : Heap) (locs : List Loc), ws_P (zD Z) vwCl 211 (za Z) (tX Z) σ H → va_S (ws_A 211 (za Z)) s.heap H locs → ∀ (ls : Array Slot), lv_has ls 5 [(0, .ref (za Z 155)), (1, .int l1), (3, .int l3)] → W p l e rm_X11_findInTune s m args below meth c H locs 0 0 (MQ below (xQv E (zD Z) vwCl 211 (za Z) (tX Z) (tysX Z) res) args s 0 0 (ws_A 211 (za Z))) (F0 m 27 ls [])) : ∀ (σ : SG) (l1 : Int32) (l3 : Int32) , m_X11_findInTune_66   c27 σ l1 l3 = some res → ∀ (H : Heap) (locs : List Loc), ws_P (zD Z) vwCl 211 (za Z) (tX Z) σ H → va_S (ws_A 211 (za Z)) s.heap H locs → ∀ (ls : Array Slot), lv_has ls 5 [(0, .ref (za Z 155)), (1, .int l1), (3, .int l3)] → W p l e rm_X11_findInTune s m args below meth c H locs 0 0 (MQ below (xQv E (zD Z) vwCl 211 (za Z) (tX Z) (tysX Z) res) args s 0 0 (ws_A 211 (za Z))) (F0 m 66 ls []) := by
  have C0 := C
  obtain ⟨hx, hb, hr, hlocks, hml, hown, hts, hE, hJ, hK⟩ := C0
  intro σ l1 l3  h H locs hP hS ls hl
  unfold m_X11_findInTune_66 at h
  obtain ⟨v22, e23, h⟩ := lS_e h
  refine lv_iinc (v := v22) (lv' := [(3, .int v22), (0, .ref (za Z 155)), (1, .int l1)]) hx hb dX11_findInTune_66 hl (k := 2) rfl (by rw [e23]; rfl) (by decide) rfl (fun ls hl => ?_)
  refine lv_goto (tgt := 27) hx hb dX11_findInTune_69 (by decide) ?_
  exact hc27 σ l1 v22 h H locs hP hS ls (lv_sub hl [1, 2, 0] rfl)
def m_X11_findInTune_27_s    (c27 : SG → Int32 → Int32 → Option (Unit × SG)) (σ : SG) (l1 : Int32) (l3 : Int32) : Option (Unit × SG) :=
  if (σ.1 205 1) ≤ l3 then (some ((), σ)) else (gB (ltB (σ.2.2 155 6) 2) (bi (m_X9_longestFrom (σ.2.2 155 6) σ l3) (fun v15 σ16 => if v15 ≤ 0 then (m_X11_findInTune_66   c27 σ16 l1 l3) else (bi (m_X1_add  σ16 l1 l3 v15 0 0) (fun v19 σ20 => m_X11_findInTune_66   c27 σ20 l1 l3)))))
def m_X11_findInTune_27    : Nat → SG → Int32 → Int32 → Option (Unit × SG)
  | 0, _, _, _ => none
  | n + 1, σ, l1, l3 => m_X11_findInTune_27_s    (m_X11_findInTune_27    n) σ l1 l3
set_option maxHeartbeats 4000000 in
set_option maxRecDepth 100000 in
theorem kb_X11_findInTune_27 {p : Program} {l : Launch} {e : Env} {s : State} {m : MethodId} {args : Array Value} {below : List Frame} {meth : Method} {c : Code} {E : EF} (Z : ZT)    (C : cy p s m args meth c cX11_findInTune none 5 RX11 wsX11_findInTune E (zD Z) vwCl 211 (za Z) (tysX Z)) {res : Unit × SG}   : ∀ (n : Nat) (σ : SG) (l1 : Int32) (l3 : Int32) , m_X11_findInTune_27    n σ l1 l3 = some res → ∀ (H : Heap) (locs : List Loc), ws_P (zD Z) vwCl 211 (za Z) (tX Z) σ H → va_S (ws_A 211 (za Z)) s.heap H locs → ∀ (ls : Array Slot), lv_has ls 5 [(0, .ref (za Z 155)), (1, .int l1), (3, .int l3)] → W p l e rm_X11_findInTune s m args below meth c H locs 0 0 (MQ below (xQv E (zD Z) vwCl 211 (za Z) (tX Z) (tysX Z) res) args s 0 0 (ws_A 211 (za Z))) (F0 m 27 ls []) := by
  have C0 := C
  obtain ⟨hx, hb, hr, hlocks, hml, hown, hts, hE, hJ, hK⟩ := C0
  intro n
  induction n with
  | zero =>
    intro σ l1 l3  h
    cases h
  | succ n ih =>
    intro σ l1 l3  h H locs hP hS ls hl
    have hc27 : ∀ (σ : SG) (l1 : Int32) (l3 : Int32) , m_X11_findInTune_27    n σ l1 l3 = some res → ∀ (H : Heap) (locs : List Loc), ws_P (zD Z) vwCl 211 (za Z) (tX Z) σ H → va_S (ws_A 211 (za Z)) s.heap H locs → ∀ (ls : Array Slot), lv_has ls 5 [(0, .ref (za Z 155)), (1, .int l1), (3, .int l3)] → W p l e rm_X11_findInTune s m args below meth c H locs 0 0 (MQ below (xQv E (zD Z) vwCl 211 (za Z) (tX Z) (tysX Z) res) args s 0 0 (ws_A 211 (za Z))) (F0 m 27 ls []) := ih
    have h : m_X11_findInTune_27_s    (m_X11_findInTune_27    n) σ l1 l3 = some res := h
    unfold m_X11_findInTune_27_s at h
    refine lv_iload_n hx hb dX11_findInTune_27 rfl (lv_at hl 2 rfl) ?_
    refine lv_aload_n hx hb dX11_findInTune_28 rfl (lv_at hl 0 rfl) ?_
    refine wr_get (C := RX11) (T := TX11) (N := 16) hx hb hts (in_X11_findInTune_X11) hown hK hP (k := 155) (by decide) ((tX_TuneSearch Z) _ _ _) rfl 10 (by decide) (hts (.fieldLink RX11 59 "TuneSearch" "signs" "LTuneSearch$Signs;") (by decide +kernel)) (fun _ h9 => h9) rfl dX11_findInTune_29 ?_
    refine wr_get (C := RX6) (T := TX6) (N := 2) hx hb hts (in_X11_findInTune_X6) hown hK hP (k := 205) (by decide) ((tX_Signs Z) _ _ _) rfl 1 (by decide) (hts (.fieldLink RX11 204 "TuneSearch$Signs" "count" "I") (by decide +kernel)) (fun _ h9 => h9) rfl dX11_findInTune_32 ?_
    refine lv_icmp_ge (tgt := 72) hx hb dX11_findInTune_35 (by decide) (fun q12 => ?_) (fun q12 => ?_)
    · have h := if_p h q12
      exact xr_vret hx hb hr hlocks hE hJ hK hP hS h dX11_findInTune_72
    · have h := if_n h q12
      refine lv_aload_n hx hb dX11_findInTune_38 rfl (lv_at hl 0 rfl) ?_
      refine wr_get (C := RX11) (T := TX11) (N := 16) hx hb hts (in_X11_findInTune_X11) hown hK hP (k := 155) (by decide) ((tX_TuneSearch Z) _ _ _) rfl 6 (by decide) (hts (.fieldLink RX11 49 "TuneSearch" "current" "LTuneSearch$Word;") (by decide +kernel)) (fun _ h9 => h9) rfl dX11_findInTune_39 ?_
      obtain ⟨b13, h⟩ := gB_e h
      have hd14 := ltB_e b13
      refine lv_iload_n hx hb dX11_findInTune_42 rfl (lv_at hl 2 rfl) ?_
      obtain ⟨v15, σ16, hm17, h⟩ := bi_e h
      refine xr_calli (res := (v15, σ16)) (va_runV (As := [.int l3]) (rest := []) ⟨hx, hb, hml, hown, hts⟩ (k_X9_longestFrom l Z (σ.2.2 155 6) hd14 σ l3 hm17) (cwV 1 hts gX11_findInTune_X9_longestFrom rfl rfl rfl (by decide +kernel) ⟨Nat.le_of_ble_eq_true rfl, Nat.le_of_ble_eq_true rfl⟩) ⟨wx_blind, wr_recv hK hP (k := (203 + (σ.2.2 155 6))) (by omega) ((tX_Word Z (σ.2.2 155 6) hd14) _ _ _) rfl, fun U hU hW => ⟨rfl, wx_at hE hJ hP hK hS hU hW⟩⟩ rfl rfl hl.1 rfl (lv_room (Nat.le_of_ble_eq_true rfl)) dX11_findInTune_43 ⟨Nat.le_of_ble_eq_true rfl, Nat.le_of_ble_eq_true rfl⟩) hS (fun H locs hP hS => ?_)
      have hP : ws_P (zD Z) vwCl 211 (za Z) (tX Z) σ16 H := hP
      refine lv_istore (lv' := [(4, .int v15), (0, .ref (za Z 155)), (1, .int l1), (3, .int l3)]) hx hb dX11_findInTune_46 hl (by decide) rfl (fun ls hl => ?_)
      refine lv_iload hx hb dX11_findInTune_48 (lv_at hl 0 rfl) ?_
      refine lv_if_le (tgt := 66) hx hb dX11_findInTune_50 (by decide) (fun q18 => ?_) (fun q18 => ?_)
      · have h := if_p h q18
        exact kb_X11_findInTune_66 Z    C  hc27 σ16 l1 l3 h H locs hP hS ls (lv_sub hl [1, 2, 3] rfl)
      · have h := if_n h q18
        refine lv_aload_n hx hb dX11_findInTune_53 rfl (lv_at hl 1 rfl) ?_
        refine wr_get (C := RX11) (T := TX11) (N := 16) hx hb hts (in_X11_findInTune_X11) hown hK hP (k := 155) (by decide) ((tX_TuneSearch Z) _ _ _) rfl 12 (by decide) (hts (.fieldLink RX11 73 "TuneSearch" "finds" "LTuneSearch$Finds;") (by decide +kernel)) (fun _ h9 => h9) rfl dX11_findInTune_54 ?_
        refine lv_iload_n hx hb dX11_findInTune_57 rfl (lv_at hl 2 rfl) ?_
        refine lv_iload_n hx hb dX11_findInTune_58 rfl (lv_at hl 3 rfl) ?_
        refine lv_iload hx hb dX11_findInTune_59 (lv_at hl 0 rfl) ?_
        refine lv_iconst (v := 0) hx hb dX11_findInTune_61 (by decide) ?_
        refine lv_iconst (v := 0) hx hb dX11_findInTune_62 (by decide) ?_
        obtain ⟨v19, σ20, hm21, h⟩ := bi_e h
        refine xr_callv (res := (v19, σ20)) (va_runV (As := [.int l1, .int l3, .int v15, .int 0, .int 0]) (rest := []) ⟨hx, hb, hml, hown, hts⟩ (k_X1_add l Z   σ16 l1 l3 v15 0 0 hm21) (cwV 5 hts gX11_findInTune_X1_add rfl rfl rfl (by decide +kernel) ⟨Nat.le_of_ble_eq_true rfl, Nat.le_of_ble_eq_true rfl⟩) ⟨wx_blind, wr_recv hK hP (k := 207) (by decide) ((tX_Finds Z) _ _ _) rfl, fun U hU hW => ⟨rfl, wx_at hE hJ hP hK hS hU hW⟩⟩ rfl rfl hl.1 rfl (lv_room (Nat.le_of_ble_eq_true rfl)) dX11_findInTune_63 ⟨Nat.le_of_ble_eq_true rfl, Nat.le_of_ble_eq_true rfl⟩) hS (fun H locs hP hS => ?_)
        have hP : ws_P (zD Z) vwCl 211 (za Z) (tX Z) σ20 H := hP
        exact kb_X11_findInTune_66 Z    C  hc27 σ20 l1 l3 h H locs hP hS ls (lv_sub hl [1, 2, 3] rfl)
def m_X11_findInTune_0    (σ : SG) (p0 : Int32) (p1 : Int32) : Option (Unit × SG) :=
  gB (inB p0 8) (bi (m_X6_look p0.toNatClampNeg σ p1) (fun v4 σ5 => gB (ltB (σ5.2.2 155 6) 2) (bi (m_X9_hold (σ5.2.2 155 6) σ5 ) (fun v9 σ10 => m_X11_findInTune_27    FV σ10 p0 0))))
set_option maxHeartbeats 4000000 in
set_option maxRecDepth 100000 in
theorem kb_X11_findInTune_0 {p : Program} {l : Launch} {e : Env} {s : State} {m : MethodId} {args : Array Value} {below : List Frame} {meth : Method} {c : Code} {E : EF} (Z : ZT)    (C : cy p s m args meth c cX11_findInTune none 5 RX11 wsX11_findInTune E (zD Z) vwCl 211 (za Z) (tysX Z)) {res : Unit × SG}   : ∀ (σ : SG) (p0 : Int32) (p1 : Int32) , m_X11_findInTune_0    σ p0 p1 = some res → ∀ (H : Heap) (locs : List Loc), ws_P (zD Z) vwCl 211 (za Z) (tX Z) σ H → va_S (ws_A 211 (za Z)) s.heap H locs → ∀ (ls : Array Slot), lv_has ls 5 [(0, .ref (za Z 155)), (1, .int p0), (2, .int p1)] → W p l e rm_X11_findInTune s m args below meth c H locs 0 0 (MQ below (xQv E (zD Z) vwCl 211 (za Z) (tX Z) (tysX Z) res) args s 0 0 (ws_A 211 (za Z))) (F0 m 0 ls []) := by
  have C0 := C
  obtain ⟨hx, hb, hr, hlocks, hml, hown, hts, hE, hJ, hK⟩ := C0
  intro σ p0 p1  h H locs hP hS ls hl
  unfold m_X11_findInTune_0 at h
  refine lv_aload_n hx hb dX11_findInTune_0 rfl (lv_at hl 0 rfl) ?_
  refine wr_get (C := RX11) (T := TX11) (N := 16) hx hb hts (in_X11_findInTune_X11) hown hK hP (k := 155) (by decide) ((tX_TuneSearch Z) _ _ _) rfl 10 (by decide) (hts (.fieldLink RX11 59 "TuneSearch" "signs" "LTuneSearch$Signs;") (by decide +kernel)) (fun _ h9 => h9) rfl dX11_findInTune_1 ?_
  refine lv_aload_n hx hb dX11_findInTune_4 rfl (lv_at hl 0 rfl) ?_
  refine wr_get (C := RX11) (T := TX11) (N := 16) hx hb hts (in_X11_findInTune_X11) hown hK hP (k := 155) (by decide) ((tX_TuneSearch Z) _ _ _) rfl 0 (by decide) (hts (.fieldLink RX11 11 "TuneSearch" "tunes" "[LTuneSearch$NoteRow;") (by decide +kernel)) (fun _ h9 => h9) rfl dX11_findInTune_5 ?_
  refine lv_iload_n hx hb dX11_findInTune_8 rfl (lv_at hl 1 rfl) ?_
  obtain ⟨b1, h⟩ := gB_e h
  have hi2 := inB_lt b1
  have hi3 : p0.toNatClampNeg < 9 := Nat.lt_of_lt_of_le hi2 (by decide)
  refine wr_aald hx hb hK hP (k := 148) (by decide) 3 rfl ((tX_tunes Z) _ _ _) rfl b1 (row_at hi2) dX11_findInTune_9 ?_
  refine lv_iload_n hx hb dX11_findInTune_10 rfl (lv_at hl 2 rfl) ?_
  obtain ⟨v4, σ5, hm6, h⟩ := bi_e h
  refine xr_callv (res := (v4, σ5)) (va_runV (As := [.ref (za Z (156 + p0.toNatClampNeg)), .int p1]) (rest := []) ⟨hx, hb, hml, hown, hts⟩ (k_X6_look l Z p0.toNatClampNeg hi3 σ p1 hm6) (cwV 2 hts gX11_findInTune_X6_look rfl rfl rfl (by decide +kernel) ⟨Nat.le_of_ble_eq_true rfl, Nat.le_of_ble_eq_true rfl⟩) ⟨wx_blind, wr_recv hK hP (k := 205) (by decide) ((tX_Signs Z) _ _ _) rfl, fun U hU hW => ⟨rfl, wx_at hE hJ hP hK hS hU hW⟩⟩ rfl rfl hl.1 rfl (lv_room (Nat.le_of_ble_eq_true rfl)) dX11_findInTune_11 ⟨Nat.le_of_ble_eq_true rfl, Nat.le_of_ble_eq_true rfl⟩) hS (fun H locs hP hS => ?_)
  have hP : ws_P (zD Z) vwCl 211 (za Z) (tX Z) σ5 H := hP
  refine lv_aload_n hx hb dX11_findInTune_14 rfl (lv_at hl 0 rfl) ?_
  refine wr_get (C := RX11) (T := TX11) (N := 16) hx hb hts (in_X11_findInTune_X11) hown hK hP (k := 155) (by decide) ((tX_TuneSearch Z) _ _ _) rfl 6 (by decide) (hts (.fieldLink RX11 49 "TuneSearch" "current" "LTuneSearch$Word;") (by decide +kernel)) (fun _ h9 => h9) rfl dX11_findInTune_15 ?_
  obtain ⟨b7, h⟩ := gB_e h
  have hd8 := ltB_e b7
  refine lv_aload_n hx hb dX11_findInTune_18 rfl (lv_at hl 0 rfl) ?_
  refine wr_get (C := RX11) (T := TX11) (N := 16) hx hb hts (in_X11_findInTune_X11) hown hK hP (k := 155) (by decide) ((tX_TuneSearch Z) _ _ _) rfl 10 (by decide) (hts (.fieldLink RX11 59 "TuneSearch" "signs" "LTuneSearch$Signs;") (by decide +kernel)) (fun _ h9 => h9) rfl dX11_findInTune_19 ?_
  obtain ⟨v9, σ10, hm11, h⟩ := bi_e h
  refine xr_callv (res := (v9, σ10)) (va_runV (As := [.ref (za Z 205)]) (rest := []) ⟨hx, hb, hml, hown, hts⟩ (k_X9_hold l Z (σ5.2.2 155 6) hd8 σ5  hm11) (cwV 1 hts gX11_findInTune_X9_hold rfl rfl rfl (by decide +kernel) ⟨Nat.le_of_ble_eq_true rfl, Nat.le_of_ble_eq_true rfl⟩) ⟨wx_blind, wr_recv hK hP (k := (203 + (σ5.2.2 155 6))) (by omega) ((tX_Word Z (σ5.2.2 155 6) hd8) _ _ _) rfl, fun U hU hW => ⟨rfl, wx_at hE hJ hP hK hS hU hW⟩⟩ rfl rfl hl.1 rfl (lv_room (Nat.le_of_ble_eq_true rfl)) dX11_findInTune_22 ⟨Nat.le_of_ble_eq_true rfl, Nat.le_of_ble_eq_true rfl⟩) hS (fun H locs hP hS => ?_)
  have hP : ws_P (zD Z) vwCl 211 (za Z) (tX Z) σ10 H := hP
  refine lv_iconst (v := 0) hx hb dX11_findInTune_25 (by decide) ?_
  refine lv_istore_n (lv' := [(3, .int 0), (0, .ref (za Z 155)), (1, .int p0), (2, .int p1)]) hx hb dX11_findInTune_26 rfl hl (by decide) rfl (fun ls hl => ?_)
  exact kb_X11_findInTune_27 Z    C   FV σ10 p0 0 h H locs hP hS ls (lv_sub hl [1, 2, 0] rfl)
def m_X11_findInTune   (σ : SG) (p0 : Int32) (p1 : Int32) : Option (Unit × SG) := m_X11_findInTune_0   σ p0 p1
set_option maxHeartbeats 4000000 in
set_option maxRecDepth 100000 in
theorem k_X11_findInTune (l : Launch) {E : EF} (Z : ZT)    (σ : SG) (p0 : Int32) (p1 : Int32) {res : Unit × SG} (h : m_X11_findInTune   σ p0 p1 = some res) : Met l yX11_findInTune wsX11_findInTune rm_X11_findInTune (va_Pc [.ref (za Z 155), .int p0, .int p1] (wx E (zD Z) vwCl 211 (za Z) (tX Z) (tysX Z) σ)) (xQv E (zD Z) vwCl 211 (za Z) (tX Z) (tysX Z) res) 0 0 (ws_A 211 (za Z)) := by
  refine Met.ofW (cc := cX11_findInTune) (maxL := 5) (ret := none) (by decide) rfl ?_
  intro p e s m args below meth c s₁ B hml hv
  obtain ⟨rfl, hE, hJ, hP, hK⟩ := hv
  have hl := lv_entry ([.ref (za Z 155), .int p0, .int p1]) (n := 5) (Nat.le_of_ble_eq_true rfl)
  rw [lg_entry_eq]
  generalize (lg_sl ([.ref (za Z 155), .int p0, .int p1]) ++ List.replicate (5 - (lg_sl ([.ref (za Z 155), .int p0, .int p1])).length) Slot.unset).toArray = ls at hl ⊢
  exact kb_X11_findInTune_0 Z    ⟨B.exec, B.bytes, B.returns, B.notSynchronized, hml, findClass_of_methodNamed B.named, atoms_spec (ws := wsX11_findInTune) B.pre, hE, hJ, hK⟩ σ p0 p1 h s.heap [] hP va_S.rf ls hl
/-! TuneSearch.find(I)I -/
abbrev rm_X11_find : Room := { frames := 6, cells := 0, slots := 0, locals := 134 }
theorem in_X11_find_X1 : ∀ w ∈ wsX10, w ∈ wsX11_find := by decide +kernel
theorem in_X11_find_X11 : ∀ w ∈ wsX110, w ∈ wsX11_find := by decide +kernel
def m_X11_find_31_s    (c31 : SG → Int32 → Int32 → Option (Int32 × SG)) (σ : SG) (l1 : Int32) (l2 : Int32) : Option (Int32 × SG) :=
  if (σ.1 155 1) ≤ l2 then (some (σ.1 207 0, σ)) else (bi (m_X11_findInTune  σ l2 l1) (fun v7 σ8 => lS (l2 + 1) (fun v10 => c31 σ8 l1 v10)))
def m_X11_find_31    : Nat → SG → Int32 → Int32 → Option (Int32 × SG)
  | 0, _, _, _ => none
  | n + 1, σ, l1, l2 => m_X11_find_31_s    (m_X11_find_31    n) σ l1 l2
set_option maxHeartbeats 4000000 in
set_option maxRecDepth 100000 in
theorem kb_X11_find_31 {p : Program} {l : Launch} {e : Env} {s : State} {m : MethodId} {args : Array Value} {below : List Frame} {meth : Method} {c : Code} {E : EF} (Z : ZT)    (C : cy p s m args meth c cX11_find (some .int) 3 RX11 wsX11_find E (zD Z) vwCl 211 (za Z) (tysX Z)) {res : Int32 × SG}   : ∀ (n : Nat) (σ : SG) (l1 : Int32) (l2 : Int32) , m_X11_find_31    n σ l1 l2 = some res → ∀ (H : Heap) (locs : List Loc), ws_P (zD Z) vwCl 211 (za Z) (tX Z) σ H → va_S (ws_A 211 (za Z)) s.heap H locs → ∀ (ls : Array Slot), lv_has ls 3 [(0, .ref (za Z 155)), (1, .int l1), (2, .int l2)] → W p l e rm_X11_find s m args below meth c H locs 0 0 (MQ below (xQi E (zD Z) vwCl 211 (za Z) (tX Z) (tysX Z) res) args s 0 0 (ws_A 211 (za Z))) (F0 m 31 ls []) := by
  have C0 := C
  obtain ⟨hx, hb, hr, hlocks, hml, hown, hts, hE, hJ, hK⟩ := C0
  intro n
  induction n with
  | zero =>
    intro σ l1 l2  h
    cases h
  | succ n ih =>
    intro σ l1 l2  h H locs hP hS ls hl
    have hc31 : ∀ (σ : SG) (l1 : Int32) (l2 : Int32) , m_X11_find_31    n σ l1 l2 = some res → ∀ (H : Heap) (locs : List Loc), ws_P (zD Z) vwCl 211 (za Z) (tX Z) σ H → va_S (ws_A 211 (za Z)) s.heap H locs → ∀ (ls : Array Slot), lv_has ls 3 [(0, .ref (za Z 155)), (1, .int l1), (2, .int l2)] → W p l e rm_X11_find s m args below meth c H locs 0 0 (MQ below (xQi E (zD Z) vwCl 211 (za Z) (tX Z) (tysX Z) res) args s 0 0 (ws_A 211 (za Z))) (F0 m 31 ls []) := ih
    have h : m_X11_find_31_s    (m_X11_find_31    n) σ l1 l2 = some res := h
    unfold m_X11_find_31_s at h
    refine lv_iload_n hx hb dX11_find_31 rfl (lv_at hl 2 rfl) ?_
    refine lv_aload_n hx hb dX11_find_32 rfl (lv_at hl 0 rfl) ?_
    refine wr_get (C := RX11) (T := TX11) (N := 16) hx hb hts (in_X11_find_X11) hown hK hP (k := 155) (by decide) ((tX_TuneSearch Z) _ _ _) rfl 1 (by decide) (hts (.fieldLink RX11 87 "TuneSearch" "tuneCount" "I") (by decide +kernel)) (fun _ h9 => h9) rfl dX11_find_33 ?_
    refine lv_icmp_ge (tgt := 51) hx hb dX11_find_36 (by decide) (fun q6 => ?_) (fun q6 => ?_)
    · have h := if_p h q6
      refine lv_aload_n hx hb dX11_find_51 rfl (lv_at hl 0 rfl) ?_
      refine wr_get (C := RX11) (T := TX11) (N := 16) hx hb hts (in_X11_find_X11) hown hK hP (k := 155) (by decide) ((tX_TuneSearch Z) _ _ _) rfl 12 (by decide) (hts (.fieldLink RX11 73 "TuneSearch" "finds" "LTuneSearch$Finds;") (by decide +kernel)) (fun _ h9 => h9) rfl dX11_find_52 ?_
      refine wr_get (C := RX1) (T := TX1) (N := 3) hx hb hts (in_X11_find_X1) hown hK hP (k := 207) (by decide) ((tX_Finds Z) _ _ _) rfl 0 (by decide) (hts (.fieldLink RX11 127 "TuneSearch$Finds" "count" "I") (by decide +kernel)) (fun _ h9 => h9) rfl dX11_find_55 ?_
      exact xr_iret hx hb hr hlocks hE hJ hK hP hS h dX11_find_58
    · have h := if_n h q6
      refine lv_aload_n hx hb dX11_find_39 rfl (lv_at hl 0 rfl) ?_
      refine lv_iload_n hx hb dX11_find_40 rfl (lv_at hl 2 rfl) ?_
      refine lv_iload_n hx hb dX11_find_41 rfl (lv_at hl 1 rfl) ?_
      obtain ⟨v7, σ8, hm9, h⟩ := bi_e h
      refine xr_callv (res := (v7, σ8)) (va_runV (As := [.int l2, .int l1]) (rest := []) ⟨hx, hb, hml, hown, hts⟩ (k_X11_findInTune l Z   σ l2 l1 hm9) (cwV 2 hts gX11_find_X11_findInTune rfl rfl rfl (by decide +kernel) ⟨Nat.le_of_ble_eq_true rfl, Nat.le_of_ble_eq_true rfl⟩) ⟨wx_blind, wr_recv hK hP (k := 155) (by decide) ((tX_TuneSearch Z) _ _ _) rfl, fun U hU hW => ⟨rfl, wx_at hE hJ hP hK hS hU hW⟩⟩ rfl rfl hl.1 rfl (lv_room (Nat.le_of_ble_eq_true rfl)) dX11_find_42 ⟨Nat.le_of_ble_eq_true rfl, Nat.le_of_ble_eq_true rfl⟩) hS (fun H locs hP hS => ?_)
      have hP : ws_P (zD Z) vwCl 211 (za Z) (tX Z) σ8 H := hP
      obtain ⟨v10, e11, h⟩ := lS_e h
      refine lv_iinc (v := v10) (lv' := [(2, .int v10), (0, .ref (za Z 155)), (1, .int l1)]) hx hb dX11_find_45 hl (k := 2) rfl (by rw [e11]; rfl) (by decide) rfl (fun ls hl => ?_)
      refine lv_goto (tgt := 31) hx hb dX11_find_48 (by decide) ?_
      exact hc31 σ8 l1 v10 h H locs hP hS ls (lv_sub hl [1, 2, 0] rfl)
def m_X11_find_0    (σ : SG) (p0 : Int32) : Option (Int32 × SG) :=
  if p0 < 0 then (some ((-2), σ)) else (if p0 < 5 then (lS (sI σ 207 0 0) (fun σ3 => if ¬ (σ3.1 155 8) = 0 then (m_X11_find_31    FV σ3 p0 0) else (some (0, σ3)))) else (some ((-2), σ)))
set_option maxHeartbeats 4000000 in
set_option maxRecDepth 100000 in
theorem kb_X11_find_0 {p : Program} {l : Launch} {e : Env} {s : State} {m : MethodId} {args : Array Value} {below : List Frame} {meth : Method} {c : Code} {E : EF} (Z : ZT)    (C : cy p s m args meth c cX11_find (some .int) 3 RX11 wsX11_find E (zD Z) vwCl 211 (za Z) (tysX Z)) {res : Int32 × SG}   : ∀ (σ : SG) (p0 : Int32) , m_X11_find_0    σ p0 = some res → ∀ (H : Heap) (locs : List Loc), ws_P (zD Z) vwCl 211 (za Z) (tX Z) σ H → va_S (ws_A 211 (za Z)) s.heap H locs → ∀ (ls : Array Slot), lv_has ls 3 [(0, .ref (za Z 155)), (1, .int p0)] → W p l e rm_X11_find s m args below meth c H locs 0 0 (MQ below (xQi E (zD Z) vwCl 211 (za Z) (tX Z) (tysX Z) res) args s 0 0 (ws_A 211 (za Z))) (F0 m 0 ls []) := by
  have C0 := C
  obtain ⟨hx, hb, hr, hlocks, hml, hown, hts, hE, hJ, hK⟩ := C0
  intro σ p0  h H locs hP hS ls hl
  unfold m_X11_find_0 at h
  refine lv_iload_n hx hb dX11_find_0 rfl (lv_at hl 1 rfl) ?_
  refine lv_if_lt (tgt := 9) hx hb dX11_find_1 (by decide) (fun q1 => ?_) (fun q1 => ?_)
  · have h := if_p h q1
    refine lv_bipush (v := (-2)) hx hb dX11_find_9 (by decide) ?_
    exact xr_iret hx hb hr hlocks hE hJ hK hP hS h dX11_find_11
  · have h := if_n h q1
    refine lv_iload_n hx hb dX11_find_4 rfl (lv_at hl 1 rfl) ?_
    refine lv_iconst (v := 5) hx hb dX11_find_5 (by decide) ?_
    refine lv_icmp_lt (tgt := 12) hx hb dX11_find_6 (by decide) (fun q2 => ?_) (fun q2 => ?_)
    · have h := if_p h q2
      refine lv_aload_n hx hb dX11_find_12 rfl (lv_at hl 0 rfl) ?_
      refine wr_get (C := RX11) (T := TX11) (N := 16) hx hb hts (in_X11_find_X11) hown hK hP (k := 155) (by decide) ((tX_TuneSearch Z) _ _ _) rfl 12 (by decide) (hts (.fieldLink RX11 73 "TuneSearch" "finds" "LTuneSearch$Finds;") (by decide +kernel)) (fun _ h9 => h9) rfl dX11_find_13 ?_
      refine lv_iconst (v := 0) hx hb dX11_find_16 (by decide) ?_
      refine wr_put (C := RX1) (T := TX1) (N := 3) (σ' := sI σ 207 0 0) (ty := .int) hx hb hts (in_X11_find_X1) tyX1 tyX1_ok nmX1 hown hK hP hJ hS (k := 207) (by decide) ((tX_Finds Z) _ _ _) rfl 0 (by decide) (hts (.fieldLink RX11 127 "TuneSearch$Finds" "count" "I") (by decide +kernel)) (fun _ h9 => h9) rfl (by decide +kernel) rfl rfl (Nat.le_of_ble_eq_true rfl) (ws_pI (tX_Finds Z) rfl) dX11_find_17 (fun H locs hP hS => ?_)
      obtain ⟨σ3, e4, h⟩ := lS_e h
      rw [← e4] at hP
      refine lv_aload_n hx hb dX11_find_20 rfl (lv_at hl 0 rfl) ?_
      refine wr_get (C := RX11) (T := TX11) (N := 16) hx hb hts (in_X11_find_X11) hown hK hP (k := 155) (by decide) ((tX_TuneSearch Z) _ _ _) rfl 8 (by decide) (hts (.fieldLink RX11 120 "TuneSearch" "hasWord" "Z") (by decide +kernel)) (fun _ h9 => h9) rfl dX11_find_21 ?_
      refine lv_if_ne (tgt := 29) hx hb dX11_find_24 (by decide) (fun q5 => ?_) (fun q5 => ?_)
      · have h := if_p h q5
        refine lv_iconst (v := 0) hx hb dX11_find_29 (by decide) ?_
        refine lv_istore_n (lv' := [(2, .int 0), (0, .ref (za Z 155)), (1, .int p0)]) hx hb dX11_find_30 rfl hl (by decide) rfl (fun ls hl => ?_)
        exact kb_X11_find_31 Z    C   FV σ3 p0 0 h H locs hP hS ls (lv_sub hl [1, 2, 0] rfl)
      · have h := if_n h (fun z => z q5)
        refine lv_iconst (v := 0) hx hb dX11_find_27 (by decide) ?_
        exact xr_iret hx hb hr hlocks hE hJ hK hP hS h dX11_find_28
    · have h := if_n h q2
      refine lv_bipush (v := (-2)) hx hb dX11_find_9 (by decide) ?_
      exact xr_iret hx hb hr hlocks hE hJ hK hP hS h dX11_find_11
def m_X11_find   (σ : SG) (p0 : Int32) : Option (Int32 × SG) := m_X11_find_0   σ p0
set_option maxHeartbeats 4000000 in
set_option maxRecDepth 100000 in
theorem k_X11_find (l : Launch) {E : EF} (Z : ZT)    (σ : SG) (p0 : Int32) {res : Int32 × SG} (h : m_X11_find   σ p0 = some res) : Met l yX11_find wsX11_find rm_X11_find (va_Pc [.ref (za Z 155), .int p0] (wx E (zD Z) vwCl 211 (za Z) (tX Z) (tysX Z) σ)) (xQi E (zD Z) vwCl 211 (za Z) (tX Z) (tysX Z) res) 0 0 (ws_A 211 (za Z)) := by
  refine Met.ofW (cc := cX11_find) (maxL := 3) (ret := (some .int)) (by decide) rfl ?_
  intro p e s m args below meth c s₁ B hml hv
  obtain ⟨rfl, hE, hJ, hP, hK⟩ := hv
  have hl := lv_entry ([.ref (za Z 155), .int p0]) (n := 3) (Nat.le_of_ble_eq_true rfl)
  rw [lg_entry_eq]
  generalize (lg_sl ([.ref (za Z 155), .int p0]) ++ List.replicate (3 - (lg_sl ([.ref (za Z 155), .int p0])).length) Slot.unset).toArray = ls at hl ⊢
  exact kb_X11_find_0 Z    ⟨B.exec, B.bytes, B.returns, B.notSynchronized, hml, findClass_of_methodNamed B.named, atoms_spec (ws := wsX11_find) B.pre, hE, hJ, hK⟩ σ p0 h s.heap [] hP va_S.rf ls hl
/-! TuneSearch.addEnds(II)V -/
abbrev rm_X11_addEnds : Room := { frames := 1, cells := 0, slots := 0, locals := 26 }
theorem in_X11_addEnds_X4 : ∀ w ∈ wsX40, w ∈ wsX11_addEnds := by decide +kernel
theorem in_X11_addEnds_X11 : ∀ w ∈ wsX110, w ∈ wsX11_addEnds := by decide +kernel
def m_X11_addEnds_58   (c2 : SG → Int32 → Int32 → Int32 → Option (Unit × SG)) (σ : SG) (l1 : Int32) (l2 : Int32) (l3 : Int32) : Option (Unit × SG) :=
  lS (l3 + 1) (fun v18 => c2 σ l1 l2 v18)
set_option maxHeartbeats 4000000 in
set_option maxRecDepth 100000 in
theorem kb_X11_addEnds_58 {p : Program} {l : Launch} {e : Env} {s : State} {m : MethodId} {args : Array Value} {below : List Frame} {meth : Method} {c : Code} {E : EF} (Z : ZT)    (C : cy p s m args meth c cX11_addEnds none 5 RX11 wsX11_addEnds E (zD Z) vwCl 211 (za Z) (tysX Z)) {res : Unit × SG} {c2 : SG → Int32 → Int32 → Int32 → Option (Unit × SG)} (hc2 : ∀ (σ : SG) (l1 : Int32) (l2 : Int32) (l3 : Int32) , c2 σ l1 l2 l3 = some res → ∀ (H : Heap) (locs : List Loc), ws_P (zD Z) vwCl 211 (za Z) (tX Z) σ H → va_S (ws_A 211 (za Z)) s.heap H locs → ∀ (ls : Array Slot), lv_has ls 5 [(0, .ref (za Z 155)), (1, .int l1), (2, .int l2), (3, .int l3)] → W p l e rm_X11_addEnds s m args below meth c H locs 0 0 (MQ below (xQv E (zD Z) vwCl 211 (za Z) (tX Z) (tysX Z) res) args s 0 0 (ws_A 211 (za Z))) (F0 m 2 ls [])) : ∀ (σ : SG) (l1 : Int32) (l2 : Int32) (l3 : Int32) , m_X11_addEnds_58   c2 σ l1 l2 l3 = some res → ∀ (H : Heap) (locs : List Loc), ws_P (zD Z) vwCl 211 (za Z) (tX Z) σ H → va_S (ws_A 211 (za Z)) s.heap H locs → ∀ (ls : Array Slot), lv_has ls 5 [(0, .ref (za Z 155)), (1, .int l1), (2, .int l2), (3, .int l3)] → W p l e rm_X11_addEnds s m args below meth c H locs 0 0 (MQ below (xQv E (zD Z) vwCl 211 (za Z) (tX Z) (tysX Z) res) args s 0 0 (ws_A 211 (za Z))) (F0 m 58 ls []) := by
  have C0 := C
  obtain ⟨hx, hb, hr, hlocks, hml, hown, hts, hE, hJ, hK⟩ := C0
  intro σ l1 l2 l3  h H locs hP hS ls hl
  unfold m_X11_addEnds_58 at h
  obtain ⟨v18, e19, h⟩ := lS_e h
  refine lv_iinc (v := v18) (lv' := [(3, .int v18), (0, .ref (za Z 155)), (1, .int l1), (2, .int l2)]) hx hb dX11_addEnds_58 hl (k := 3) rfl (by rw [e19]; rfl) (by decide) rfl (fun ls hl => ?_)
  refine lv_goto (tgt := 2) hx hb dX11_addEnds_61 (by decide) ?_
  exact hc2 σ l1 l2 v18 h H locs hP hS ls (lv_sub hl [1, 2, 3, 0] rfl)
def m_X11_addEnds_2_s    (c2 : SG → Int32 → Int32 → Int32 → Option (Unit × SG)) (σ : SG) (l1 : Int32) (l2 : Int32) (l3 : Int32) : Option (Unit × SG) :=
  gB (inB l1 8) (if (σ.1 (156 + l1.toNatClampNeg) 2) < l3 then (some ((), σ)) else (bi (m_X8_endCost  σ l3) (fun v5 σ6 => if l2 < v5 then (m_X11_addEnds_58   c2 σ6 l1 l2 l3) else (bi (m_X8_endPlace  σ6 l3) (fun v9 σ10 => bi (m_X8_endShift  σ10 l3) (fun v12 σ13 => bi (m_X1_add  σ13 l1 v9 l3 v5 v12) (fun v15 σ16 => m_X11_addEnds_58   c2 σ16 l1 l2 l3)))))))
def m_X11_addEnds_2    : Nat → SG → Int32 → Int32 → Int32 → Option (Unit × SG)
  | 0, _, _, _, _ => none
  | n + 1, σ, l1, l2, l3 => m_X11_addEnds_2_s    (m_X11_addEnds_2    n) σ l1 l2 l3
set_option maxHeartbeats 4000000 in
set_option maxRecDepth 100000 in
theorem kb_X11_addEnds_2 {p : Program} {l : Launch} {e : Env} {s : State} {m : MethodId} {args : Array Value} {below : List Frame} {meth : Method} {c : Code} {E : EF} (Z : ZT)    (C : cy p s m args meth c cX11_addEnds none 5 RX11 wsX11_addEnds E (zD Z) vwCl 211 (za Z) (tysX Z)) {res : Unit × SG}   : ∀ (n : Nat) (σ : SG) (l1 : Int32) (l2 : Int32) (l3 : Int32) , m_X11_addEnds_2    n σ l1 l2 l3 = some res → ∀ (H : Heap) (locs : List Loc), ws_P (zD Z) vwCl 211 (za Z) (tX Z) σ H → va_S (ws_A 211 (za Z)) s.heap H locs → ∀ (ls : Array Slot), lv_has ls 5 [(0, .ref (za Z 155)), (1, .int l1), (2, .int l2), (3, .int l3)] → W p l e rm_X11_addEnds s m args below meth c H locs 0 0 (MQ below (xQv E (zD Z) vwCl 211 (za Z) (tX Z) (tysX Z) res) args s 0 0 (ws_A 211 (za Z))) (F0 m 2 ls []) := by
  have C0 := C
  obtain ⟨hx, hb, hr, hlocks, hml, hown, hts, hE, hJ, hK⟩ := C0
  intro n
  induction n with
  | zero =>
    intro σ l1 l2 l3  h
    cases h
  | succ n ih =>
    intro σ l1 l2 l3  h H locs hP hS ls hl
    have hc2 : ∀ (σ : SG) (l1 : Int32) (l2 : Int32) (l3 : Int32) , m_X11_addEnds_2    n σ l1 l2 l3 = some res → ∀ (H : Heap) (locs : List Loc), ws_P (zD Z) vwCl 211 (za Z) (tX Z) σ H → va_S (ws_A 211 (za Z)) s.heap H locs → ∀ (ls : Array Slot), lv_has ls 5 [(0, .ref (za Z 155)), (1, .int l1), (2, .int l2), (3, .int l3)] → W p l e rm_X11_addEnds s m args below meth c H locs 0 0 (MQ below (xQv E (zD Z) vwCl 211 (za Z) (tX Z) (tysX Z) res) args s 0 0 (ws_A 211 (za Z))) (F0 m 2 ls []) := ih
    have h : m_X11_addEnds_2_s    (m_X11_addEnds_2    n) σ l1 l2 l3 = some res := h
    unfold m_X11_addEnds_2_s at h
    refine lv_iload_n hx hb dX11_addEnds_2 rfl (lv_at hl 3 rfl) ?_
    refine lv_aload_n hx hb dX11_addEnds_3 rfl (lv_at hl 0 rfl) ?_
    refine wr_get (C := RX11) (T := TX11) (N := 16) hx hb hts (in_X11_addEnds_X11) hown hK hP (k := 155) (by decide) ((tX_TuneSearch Z) _ _ _) rfl 0 (by decide) (hts (.fieldLink RX11 11 "TuneSearch" "tunes" "[LTuneSearch$NoteRow;") (by decide +kernel)) (fun _ h9 => h9) rfl dX11_addEnds_4 ?_
    refine lv_iload_n hx hb dX11_addEnds_7 rfl (lv_at hl 1 rfl) ?_
    obtain ⟨b1, h⟩ := gB_e h
    have hi2 := inB_lt b1
    have hi3 : l1.toNatClampNeg < 9 := Nat.lt_of_lt_of_le hi2 (by decide)
    refine wr_aald hx hb hK hP (k := 148) (by decide) 3 rfl ((tX_tunes Z) _ _ _) rfl b1 (row_at hi2) dX11_addEnds_8 ?_
    refine wr_get (C := RX4) (T := TX4) (N := 3) hx hb hts (in_X11_addEnds_X4) hown hK hP (k := (156 + l1.toNatClampNeg)) (by omega) ((tX_NoteRow Z l1.toNatClampNeg hi3) _ _ _) rfl 2 (by decide) (hts (.fieldLink RX11 99 "TuneSearch$NoteRow" "count" "I") (by decide +kernel)) (fun _ h9 => h9) rfl dX11_addEnds_9 ?_
    refine lv_icmp_gt (tgt := 64) hx hb dX11_addEnds_12 (by decide) (fun q4 => ?_) (fun q4 => ?_)
    · have h := if_p h q4
      exact xr_vret hx hb hr hlocks hE hJ hK hP hS h dX11_addEnds_64
    · have h := if_n h q4
      refine lv_aload_n hx hb dX11_addEnds_15 rfl (lv_at hl 0 rfl) ?_
      refine wr_get (C := RX11) (T := TX11) (N := 16) hx hb hts (in_X11_addEnds_X11) hown hK hP (k := 155) (by decide) ((tX_TuneSearch Z) _ _ _) rfl 11 (by decide) (hts (.fieldLink RX11 66 "TuneSearch" "ways" "LTuneSearch$Ways;") (by decide +kernel)) (fun _ h9 => h9) rfl dX11_addEnds_16 ?_
      refine lv_iload_n hx hb dX11_addEnds_19 rfl (lv_at hl 3 rfl) ?_
      obtain ⟨v5, σ6, hm7, h⟩ := bi_e h
      refine xr_calli (res := (v5, σ6)) (va_runV (As := [.int l3]) (rest := []) ⟨hx, hb, hml, hown, hts⟩ (k_X8_endCost l Z   σ l3 hm7) (cwV 1 hts gX11_addEnds_X8_endCost rfl rfl rfl (by decide +kernel) ⟨Nat.le_of_ble_eq_true rfl, Nat.le_of_ble_eq_true rfl⟩) ⟨wx_blind, wr_recv hK hP (k := 206) (by decide) ((tX_Ways Z) _ _ _) rfl, fun U hU hW => ⟨rfl, wx_at hE hJ hP hK hS hU hW⟩⟩ rfl rfl hl.1 rfl (lv_room (Nat.le_of_ble_eq_true rfl)) dX11_addEnds_20 ⟨Nat.le_of_ble_eq_true rfl, Nat.le_of_ble_eq_true rfl⟩) hS (fun H locs hP hS => ?_)
      have hP : ws_P (zD Z) vwCl 211 (za Z) (tX Z) σ6 H := hP
      refine lv_istore (lv' := [(4, .int v5), (0, .ref (za Z 155)), (1, .int l1), (2, .int l2), (3, .int l3)]) hx hb dX11_addEnds_23 hl (by decide) rfl (fun ls hl => ?_)
      refine lv_iload hx hb dX11_addEnds_25 (lv_at hl 0 rfl) ?_
      refine lv_iload_n hx hb dX11_addEnds_27 rfl (lv_at hl 3 rfl) ?_
      refine lv_icmp_gt (tgt := 58) hx hb dX11_addEnds_28 (by decide) (fun q8 => ?_) (fun q8 => ?_)
      · have h := if_p h q8
        exact kb_X11_addEnds_58 Z    C  hc2 σ6 l1 l2 l3 h H locs hP hS ls (lv_sub hl [1, 2, 3, 4] rfl)
      · have h := if_n h q8
        refine lv_aload_n hx hb dX11_addEnds_31 rfl (lv_at hl 1 rfl) ?_
        refine wr_get (C := RX11) (T := TX11) (N := 16) hx hb hts (in_X11_addEnds_X11) hown hK hP (k := 155) (by decide) ((tX_TuneSearch Z) _ _ _) rfl 12 (by decide) (hts (.fieldLink RX11 73 "TuneSearch" "finds" "LTuneSearch$Finds;") (by decide +kernel)) (fun _ h9 => h9) rfl dX11_addEnds_32 ?_
        refine lv_iload_n hx hb dX11_addEnds_35 rfl (lv_at hl 2 rfl) ?_
        refine lv_aload_n hx hb dX11_addEnds_36 rfl (lv_at hl 1 rfl) ?_
        refine wr_get (C := RX11) (T := TX11) (N := 16) hx hb hts (in_X11_addEnds_X11) hown hK hP (k := 155) (by decide) ((tX_TuneSearch Z) _ _ _) rfl 11 (by decide) (hts (.fieldLink RX11 66 "TuneSearch" "ways" "LTuneSearch$Ways;") (by decide +kernel)) (fun _ h9 => h9) rfl dX11_addEnds_37 ?_
        refine lv_iload_n hx hb dX11_addEnds_40 rfl (lv_at hl 4 rfl) ?_
        obtain ⟨v9, σ10, hm11, h⟩ := bi_e h
        refine xr_calli (res := (v9, σ10)) (va_runV (As := [.int l3]) (rest := [.int l1, .ref (za Z 207)]) ⟨hx, hb, hml, hown, hts⟩ (k_X8_endPlace l Z   σ6 l3 hm11) (cwV 1 hts gX11_addEnds_X8_endPlace rfl rfl rfl (by decide +kernel) ⟨Nat.le_of_ble_eq_true rfl, Nat.le_of_ble_eq_true rfl⟩) ⟨wx_blind, wr_recv hK hP (k := 206) (by decide) ((tX_Ways Z) _ _ _) rfl, fun U hU hW => ⟨rfl, wx_at hE hJ hP hK hS hU hW⟩⟩ rfl rfl hl.1 rfl (lv_room (Nat.le_of_ble_eq_true rfl)) dX11_addEnds_41 ⟨Nat.le_of_ble_eq_true rfl, Nat.le_of_ble_eq_true rfl⟩) hS (fun H locs hP hS => ?_)
        have hP : ws_P (zD Z) vwCl 211 (za Z) (tX Z) σ10 H := hP
        refine lv_iload_n hx hb dX11_addEnds_44 rfl (lv_at hl 4 rfl) ?_
        refine lv_iload hx hb dX11_addEnds_45 (lv_at hl 0 rfl) ?_
        refine lv_aload_n hx hb dX11_addEnds_47 rfl (lv_at hl 1 rfl) ?_
        refine wr_get (C := RX11) (T := TX11) (N := 16) hx hb hts (in_X11_addEnds_X11) hown hK hP (k := 155) (by decide) ((tX_TuneSearch Z) _ _ _) rfl 11 (by decide) (hts (.fieldLink RX11 66 "TuneSearch" "ways" "LTuneSearch$Ways;") (by decide +kernel)) (fun _ h9 => h9) rfl dX11_addEnds_48 ?_
        refine lv_iload_n hx hb dX11_addEnds_51 rfl (lv_at hl 4 rfl) ?_
        obtain ⟨v12, σ13, hm14, h⟩ := bi_e h
        refine xr_calli (res := (v12, σ13)) (va_runV (As := [.int l3]) (rest := [.int v5, .int l3, .int v9, .int l1, .ref (za Z 207)]) ⟨hx, hb, hml, hown, hts⟩ (k_X8_endShift l Z   σ10 l3 hm14) (cwV 1 hts gX11_addEnds_X8_endShift rfl rfl rfl (by decide +kernel) ⟨Nat.le_of_ble_eq_true rfl, Nat.le_of_ble_eq_true rfl⟩) ⟨wx_blind, wr_recv hK hP (k := 206) (by decide) ((tX_Ways Z) _ _ _) rfl, fun U hU hW => ⟨rfl, wx_at hE hJ hP hK hS hU hW⟩⟩ rfl rfl hl.1 rfl (lv_room (Nat.le_of_ble_eq_true rfl)) dX11_addEnds_52 ⟨Nat.le_of_ble_eq_true rfl, Nat.le_of_ble_eq_true rfl⟩) hS (fun H locs hP hS => ?_)
        have hP : ws_P (zD Z) vwCl 211 (za Z) (tX Z) σ13 H := hP
        obtain ⟨v15, σ16, hm17, h⟩ := bi_e h
        refine xr_callv (res := (v15, σ16)) (va_runV (As := [.int l1, .int v9, .int l3, .int v5, .int v12]) (rest := []) ⟨hx, hb, hml, hown, hts⟩ (k_X1_add l Z   σ13 l1 v9 l3 v5 v12 hm17) (cwV 5 hts gX11_addEnds_X1_add rfl rfl rfl (by decide +kernel) ⟨Nat.le_of_ble_eq_true rfl, Nat.le_of_ble_eq_true rfl⟩) ⟨wx_blind, wr_recv hK hP (k := 207) (by decide) ((tX_Finds Z) _ _ _) rfl, fun U hU hW => ⟨rfl, wx_at hE hJ hP hK hS hU hW⟩⟩ rfl rfl hl.1 rfl (lv_room (Nat.le_of_ble_eq_true rfl)) dX11_addEnds_55 ⟨Nat.le_of_ble_eq_true rfl, Nat.le_of_ble_eq_true rfl⟩) hS (fun H locs hP hS => ?_)
        have hP : ws_P (zD Z) vwCl 211 (za Z) (tX Z) σ16 H := hP
        exact kb_X11_addEnds_58 Z    C  hc2 σ16 l1 l2 l3 h H locs hP hS ls (lv_sub hl [1, 2, 3, 4] rfl)
def m_X11_addEnds_0    (σ : SG) (p0 : Int32) (p1 : Int32) : Option (Unit × SG) :=
  m_X11_addEnds_2    FV σ p0 p1 0
set_option maxHeartbeats 4000000 in
set_option maxRecDepth 100000 in
theorem kb_X11_addEnds_0 {p : Program} {l : Launch} {e : Env} {s : State} {m : MethodId} {args : Array Value} {below : List Frame} {meth : Method} {c : Code} {E : EF} (Z : ZT)    (C : cy p s m args meth c cX11_addEnds none 5 RX11 wsX11_addEnds E (zD Z) vwCl 211 (za Z) (tysX Z)) {res : Unit × SG}   : ∀ (σ : SG) (p0 : Int32) (p1 : Int32) , m_X11_addEnds_0    σ p0 p1 = some res → ∀ (H : Heap) (locs : List Loc), ws_P (zD Z) vwCl 211 (za Z) (tX Z) σ H → va_S (ws_A 211 (za Z)) s.heap H locs → ∀ (ls : Array Slot), lv_has ls 5 [(0, .ref (za Z 155)), (1, .int p0), (2, .int p1)] → W p l e rm_X11_addEnds s m args below meth c H locs 0 0 (MQ below (xQv E (zD Z) vwCl 211 (za Z) (tX Z) (tysX Z) res) args s 0 0 (ws_A 211 (za Z))) (F0 m 0 ls []) := by
  have C0 := C
  obtain ⟨hx, hb, hr, hlocks, hml, hown, hts, hE, hJ, hK⟩ := C0
  intro σ p0 p1  h H locs hP hS ls hl
  unfold m_X11_addEnds_0 at h
  refine lv_iconst (v := 0) hx hb dX11_addEnds_0 (by decide) ?_
  refine lv_istore_n (lv' := [(3, .int 0), (0, .ref (za Z 155)), (1, .int p0), (2, .int p1)]) hx hb dX11_addEnds_1 rfl hl (by decide) rfl (fun ls hl => ?_)
  exact kb_X11_addEnds_2 Z    C   FV σ p0 p1 0 h H locs hP hS ls (lv_sub hl [1, 2, 3, 0] rfl)
def m_X11_addEnds   (σ : SG) (p0 : Int32) (p1 : Int32) : Option (Unit × SG) := m_X11_addEnds_0   σ p0 p1
set_option maxHeartbeats 4000000 in
set_option maxRecDepth 100000 in
theorem k_X11_addEnds (l : Launch) {E : EF} (Z : ZT)    (σ : SG) (p0 : Int32) (p1 : Int32) {res : Unit × SG} (h : m_X11_addEnds   σ p0 p1 = some res) : Met l yX11_addEnds wsX11_addEnds rm_X11_addEnds (va_Pc [.ref (za Z 155), .int p0, .int p1] (wx E (zD Z) vwCl 211 (za Z) (tX Z) (tysX Z) σ)) (xQv E (zD Z) vwCl 211 (za Z) (tX Z) (tysX Z) res) 0 0 (ws_A 211 (za Z)) := by
  refine Met.ofW (cc := cX11_addEnds) (maxL := 5) (ret := none) (by decide) rfl ?_
  intro p e s m args below meth c s₁ B hml hv
  obtain ⟨rfl, hE, hJ, hP, hK⟩ := hv
  have hl := lv_entry ([.ref (za Z 155), .int p0, .int p1]) (n := 5) (Nat.le_of_ble_eq_true rfl)
  rw [lg_entry_eq]
  generalize (lg_sl ([.ref (za Z 155), .int p0, .int p1]) ++ List.replicate (5 - (lg_sl ([.ref (za Z 155), .int p0, .int p1])).length) Slot.unset).toArray = ls at hl ⊢
  exact kb_X11_addEnds_0 Z    ⟨B.exec, B.bytes, B.returns, B.notSynchronized, hml, findClass_of_methodNamed B.named, atoms_spec (ws := wsX11_addEnds) B.pre, hE, hJ, hK⟩ σ p0 p1 h s.heap [] hP va_S.rf ls hl
/-! TuneSearch.near(II)I -/
abbrev rm_X11_near : Room := { frames := 6, cells := 0, slots := 0, locals := 155 }
theorem in_X11_near_X1 : ∀ w ∈ wsX10, w ∈ wsX11_near := by decide +kernel
theorem in_X11_near_X11 : ∀ w ∈ wsX110, w ∈ wsX11_near := by decide +kernel
def m_X11_near_27_s    (c27 : SG → Int32 → Int32 → Int32 → Option (Int32 × SG)) (σ : SG) (l1 : Int32) (l2 : Int32) (l3 : Int32) : Option (Int32 × SG) :=
  if (σ.1 155 1) ≤ l3 then (some (σ.1 207 0, σ)) else (gB (inB l3 8) (bi (m_X8_seekEnds 8 l3.toNatClampNeg σ l2 l1) (fun v10 σ11 => bi (m_X11_addEnds  σ11 l3 l1) (fun v13 σ14 => lS (l3 + 1) (fun v16 => c27 σ14 l1 l2 v16)))))
def m_X11_near_27    : Nat → SG → Int32 → Int32 → Int32 → Option (Int32 × SG)
  | 0, _, _, _, _ => none
  | n + 1, σ, l1, l2, l3 => m_X11_near_27_s    (m_X11_near_27    n) σ l1 l2 l3
set_option maxHeartbeats 4000000 in
set_option maxRecDepth 100000 in
theorem kb_X11_near_27 {p : Program} {l : Launch} {e : Env} {s : State} {m : MethodId} {args : Array Value} {below : List Frame} {meth : Method} {c : Code} {E : EF} (Z : ZT)    (C : cy p s m args meth c cX11_near (some .int) 4 RX11 wsX11_near E (zD Z) vwCl 211 (za Z) (tysX Z)) {res : Int32 × SG}   : ∀ (n : Nat) (σ : SG) (l1 : Int32) (l2 : Int32) (l3 : Int32) , m_X11_near_27    n σ l1 l2 l3 = some res → ∀ (H : Heap) (locs : List Loc), ws_P (zD Z) vwCl 211 (za Z) (tX Z) σ H → va_S (ws_A 211 (za Z)) s.heap H locs → ∀ (ls : Array Slot), lv_has ls 4 [(0, .ref (za Z 155)), (1, .int l1), (2, .int l2), (3, .int l3)] → W p l e rm_X11_near s m args below meth c H locs 0 0 (MQ below (xQi E (zD Z) vwCl 211 (za Z) (tX Z) (tysX Z) res) args s 0 0 (ws_A 211 (za Z))) (F0 m 27 ls []) := by
  have C0 := C
  obtain ⟨hx, hb, hr, hlocks, hml, hown, hts, hE, hJ, hK⟩ := C0
  intro n
  induction n with
  | zero =>
    intro σ l1 l2 l3  h
    cases h
  | succ n ih =>
    intro σ l1 l2 l3  h H locs hP hS ls hl
    have hc27 : ∀ (σ : SG) (l1 : Int32) (l2 : Int32) (l3 : Int32) , m_X11_near_27    n σ l1 l2 l3 = some res → ∀ (H : Heap) (locs : List Loc), ws_P (zD Z) vwCl 211 (za Z) (tX Z) σ H → va_S (ws_A 211 (za Z)) s.heap H locs → ∀ (ls : Array Slot), lv_has ls 4 [(0, .ref (za Z 155)), (1, .int l1), (2, .int l2), (3, .int l3)] → W p l e rm_X11_near s m args below meth c H locs 0 0 (MQ below (xQi E (zD Z) vwCl 211 (za Z) (tX Z) (tysX Z) res) args s 0 0 (ws_A 211 (za Z))) (F0 m 27 ls []) := ih
    have h : m_X11_near_27_s    (m_X11_near_27    n) σ l1 l2 l3 = some res := h
    unfold m_X11_near_27_s at h
    refine lv_iload_n hx hb dX11_near_27 rfl (lv_at hl 3 rfl) ?_
    refine lv_aload_n hx hb dX11_near_28 rfl (lv_at hl 0 rfl) ?_
    refine wr_get (C := RX11) (T := TX11) (N := 16) hx hb hts (in_X11_near_X11) hown hK hP (k := 155) (by decide) ((tX_TuneSearch Z) _ _ _) rfl 1 (by decide) (hts (.fieldLink RX11 87 "TuneSearch" "tuneCount" "I") (by decide +kernel)) (fun _ h9 => h9) rfl dX11_near_29 ?_
    refine lv_icmp_ge (tgt := 70) hx hb dX11_near_32 (by decide) (fun q6 => ?_) (fun q6 => ?_)
    · have h := if_p h q6
      refine lv_aload_n hx hb dX11_near_70 rfl (lv_at hl 0 rfl) ?_
      refine wr_get (C := RX11) (T := TX11) (N := 16) hx hb hts (in_X11_near_X11) hown hK hP (k := 155) (by decide) ((tX_TuneSearch Z) _ _ _) rfl 12 (by decide) (hts (.fieldLink RX11 73 "TuneSearch" "finds" "LTuneSearch$Finds;") (by decide +kernel)) (fun _ h9 => h9) rfl dX11_near_71 ?_
      refine wr_get (C := RX1) (T := TX1) (N := 3) hx hb hts (in_X11_near_X1) hown hK hP (k := 207) (by decide) ((tX_Finds Z) _ _ _) rfl 0 (by decide) (hts (.fieldLink RX11 127 "TuneSearch$Finds" "count" "I") (by decide +kernel)) (fun _ h9 => h9) rfl dX11_near_74 ?_
      exact xr_iret hx hb hr hlocks hE hJ hK hP hS h dX11_near_77
    · have h := if_n h q6
      refine lv_aload_n hx hb dX11_near_35 rfl (lv_at hl 0 rfl) ?_
      refine wr_get (C := RX11) (T := TX11) (N := 16) hx hb hts (in_X11_near_X11) hown hK hP (k := 155) (by decide) ((tX_TuneSearch Z) _ _ _) rfl 11 (by decide) (hts (.fieldLink RX11 66 "TuneSearch" "ways" "LTuneSearch$Ways;") (by decide +kernel)) (fun _ h9 => h9) rfl dX11_near_36 ?_
      refine lv_aload_n hx hb dX11_near_39 rfl (lv_at hl 0 rfl) ?_
      refine wr_get (C := RX11) (T := TX11) (N := 16) hx hb hts (in_X11_near_X11) hown hK hP (k := 155) (by decide) ((tX_TuneSearch Z) _ _ _) rfl 3 (by decide) (hts (.fieldLink RX11 22 "TuneSearch" "prices" "[I") (by decide +kernel)) (fun _ h9 => h9) rfl dX11_near_40 ?_
      refine lv_aload_n hx hb dX11_near_43 rfl (lv_at hl 0 rfl) ?_
      refine wr_get (C := RX11) (T := TX11) (N := 16) hx hb hts (in_X11_near_X11) hown hK hP (k := 155) (by decide) ((tX_TuneSearch Z) _ _ _) rfl 2 (by decide) (hts (.fieldLink RX11 18 "TuneSearch" "asked" "LTuneSearch$NoteRow;") (by decide +kernel)) (fun _ h9 => h9) rfl dX11_near_44 ?_
      refine lv_aload_n hx hb dX11_near_47 rfl (lv_at hl 0 rfl) ?_
      refine wr_get (C := RX11) (T := TX11) (N := 16) hx hb hts (in_X11_near_X11) hown hK hP (k := 155) (by decide) ((tX_TuneSearch Z) _ _ _) rfl 0 (by decide) (hts (.fieldLink RX11 11 "TuneSearch" "tunes" "[LTuneSearch$NoteRow;") (by decide +kernel)) (fun _ h9 => h9) rfl dX11_near_48 ?_
      refine lv_iload_n hx hb dX11_near_51 rfl (lv_at hl 3 rfl) ?_
      obtain ⟨b7, h⟩ := gB_e h
      have hi8 := inB_lt b7
      have hi9 : l3.toNatClampNeg < 9 := Nat.lt_of_lt_of_le hi8 (by decide)
      refine wr_aald hx hb hK hP (k := 148) (by decide) 3 rfl ((tX_tunes Z) _ _ _) rfl b7 (row_at hi8) dX11_near_52 ?_
      refine lv_iload_n hx hb dX11_near_53 rfl (lv_at hl 2 rfl) ?_
      refine lv_iload_n hx hb dX11_near_54 rfl (lv_at hl 1 rfl) ?_
      obtain ⟨v10, σ11, hm12, h⟩ := bi_e h
      refine xr_callv (res := (v10, σ11)) (va_runV (As := [.ref (za Z 18), .ref (za Z (156 + 8)), .ref (za Z (156 + l3.toNatClampNeg)), .int l2, .int l1]) (rest := []) ⟨hx, hb, hml, hown, hts⟩ (k_X8_seekEnds l Z 8 l3.toNatClampNeg (by decide) hi9 σ l2 l1 hm12) (cwV 5 hts gX11_near_X8_seekEnds rfl rfl rfl (by decide +kernel) ⟨Nat.le_of_ble_eq_true rfl, Nat.le_of_ble_eq_true rfl⟩) ⟨wx_blind, wr_recv hK hP (k := 206) (by decide) ((tX_Ways Z) _ _ _) rfl, fun U hU hW => ⟨rfl, wx_at hE hJ hP hK hS hU hW⟩⟩ rfl rfl hl.1 rfl (lv_room (Nat.le_of_ble_eq_true rfl)) dX11_near_55 ⟨Nat.le_of_ble_eq_true rfl, Nat.le_of_ble_eq_true rfl⟩) hS (fun H locs hP hS => ?_)
      have hP : ws_P (zD Z) vwCl 211 (za Z) (tX Z) σ11 H := hP
      refine lv_aload_n hx hb dX11_near_58 rfl (lv_at hl 0 rfl) ?_
      refine lv_iload_n hx hb dX11_near_59 rfl (lv_at hl 3 rfl) ?_
      refine lv_iload_n hx hb dX11_near_60 rfl (lv_at hl 1 rfl) ?_
      obtain ⟨v13, σ14, hm15, h⟩ := bi_e h
      refine xr_callv (res := (v13, σ14)) (va_runV (As := [.int l3, .int l1]) (rest := []) ⟨hx, hb, hml, hown, hts⟩ (k_X11_addEnds l Z   σ11 l3 l1 hm15) (cwV 2 hts gX11_near_X11_addEnds rfl rfl rfl (by decide +kernel) ⟨Nat.le_of_ble_eq_true rfl, Nat.le_of_ble_eq_true rfl⟩) ⟨wx_blind, wr_recv hK hP (k := 155) (by decide) ((tX_TuneSearch Z) _ _ _) rfl, fun U hU hW => ⟨rfl, wx_at hE hJ hP hK hS hU hW⟩⟩ rfl rfl hl.1 rfl (lv_room (Nat.le_of_ble_eq_true rfl)) dX11_near_61 ⟨Nat.le_of_ble_eq_true rfl, Nat.le_of_ble_eq_true rfl⟩) hS (fun H locs hP hS => ?_)
      have hP : ws_P (zD Z) vwCl 211 (za Z) (tX Z) σ14 H := hP
      obtain ⟨v16, e17, h⟩ := lS_e h
      refine lv_iinc (v := v16) (lv' := [(3, .int v16), (0, .ref (za Z 155)), (1, .int l1), (2, .int l2)]) hx hb dX11_near_64 hl (k := 3) rfl (by rw [e17]; rfl) (by decide) rfl (fun ls hl => ?_)
      refine lv_goto (tgt := 27) hx hb dX11_near_67 (by decide) ?_
      exact hc27 σ14 l1 l2 v16 h H locs hP hS ls (lv_sub hl [1, 2, 3, 0] rfl)
def m_X11_near_0    (σ : SG) (p0 : Int32) (p1 : Int32) : Option (Int32 × SG) :=
  if p0 < 0 then (some ((-2), σ)) else (if p1 < 0 then (some ((-2), σ)) else (if p1 ≤ 24 then (lS (sI σ 207 0 0) (fun σ4 => m_X11_near_27    FV σ4 p0 p1 0)) else (some ((-2), σ))))
set_option maxHeartbeats 4000000 in
set_option maxRecDepth 100000 in
theorem kb_X11_near_0 {p : Program} {l : Launch} {e : Env} {s : State} {m : MethodId} {args : Array Value} {below : List Frame} {meth : Method} {c : Code} {E : EF} (Z : ZT)    (C : cy p s m args meth c cX11_near (some .int) 4 RX11 wsX11_near E (zD Z) vwCl 211 (za Z) (tysX Z)) {res : Int32 × SG}   : ∀ (σ : SG) (p0 : Int32) (p1 : Int32) , m_X11_near_0    σ p0 p1 = some res → ∀ (H : Heap) (locs : List Loc), ws_P (zD Z) vwCl 211 (za Z) (tX Z) σ H → va_S (ws_A 211 (za Z)) s.heap H locs → ∀ (ls : Array Slot), lv_has ls 4 [(0, .ref (za Z 155)), (1, .int p0), (2, .int p1)] → W p l e rm_X11_near s m args below meth c H locs 0 0 (MQ below (xQi E (zD Z) vwCl 211 (za Z) (tX Z) (tysX Z) res) args s 0 0 (ws_A 211 (za Z))) (F0 m 0 ls []) := by
  have C0 := C
  obtain ⟨hx, hb, hr, hlocks, hml, hown, hts, hE, hJ, hK⟩ := C0
  intro σ p0 p1  h H locs hP hS ls hl
  unfold m_X11_near_0 at h
  refine lv_iload_n hx hb dX11_near_0 rfl (lv_at hl 1 rfl) ?_
  refine lv_if_lt (tgt := 14) hx hb dX11_near_1 (by decide) (fun q1 => ?_) (fun q1 => ?_)
  · have h := if_p h q1
    refine lv_bipush (v := (-2)) hx hb dX11_near_14 (by decide) ?_
    exact xr_iret hx hb hr hlocks hE hJ hK hP hS h dX11_near_16
  · have h := if_n h q1
    refine lv_iload_n hx hb dX11_near_4 rfl (lv_at hl 2 rfl) ?_
    refine lv_if_lt (tgt := 14) hx hb dX11_near_5 (by decide) (fun q2 => ?_) (fun q2 => ?_)
    · have h := if_p h q2
      refine lv_bipush (v := (-2)) hx hb dX11_near_14 (by decide) ?_
      exact xr_iret hx hb hr hlocks hE hJ hK hP hS h dX11_near_16
    · have h := if_n h q2
      refine lv_iload_n hx hb dX11_near_8 rfl (lv_at hl 2 rfl) ?_
      refine lv_bipush (v := 24) hx hb dX11_near_9 (by decide) ?_
      refine lv_icmp_le (tgt := 17) hx hb dX11_near_11 (by decide) (fun q3 => ?_) (fun q3 => ?_)
      · have h := if_p h q3
        refine lv_aload_n hx hb dX11_near_17 rfl (lv_at hl 0 rfl) ?_
        refine wr_get (C := RX11) (T := TX11) (N := 16) hx hb hts (in_X11_near_X11) hown hK hP (k := 155) (by decide) ((tX_TuneSearch Z) _ _ _) rfl 12 (by decide) (hts (.fieldLink RX11 73 "TuneSearch" "finds" "LTuneSearch$Finds;") (by decide +kernel)) (fun _ h9 => h9) rfl dX11_near_18 ?_
        refine lv_iconst (v := 0) hx hb dX11_near_21 (by decide) ?_
        refine wr_put (C := RX1) (T := TX1) (N := 3) (σ' := sI σ 207 0 0) (ty := .int) hx hb hts (in_X11_near_X1) tyX1 tyX1_ok nmX1 hown hK hP hJ hS (k := 207) (by decide) ((tX_Finds Z) _ _ _) rfl 0 (by decide) (hts (.fieldLink RX11 127 "TuneSearch$Finds" "count" "I") (by decide +kernel)) (fun _ h9 => h9) rfl (by decide +kernel) rfl rfl (Nat.le_of_ble_eq_true rfl) (ws_pI (tX_Finds Z) rfl) dX11_near_22 (fun H locs hP hS => ?_)
        obtain ⟨σ4, e5, h⟩ := lS_e h
        rw [← e5] at hP
        refine lv_iconst (v := 0) hx hb dX11_near_25 (by decide) ?_
        refine lv_istore_n (lv' := [(3, .int 0), (0, .ref (za Z 155)), (1, .int p0), (2, .int p1)]) hx hb dX11_near_26 rfl hl (by decide) rfl (fun ls hl => ?_)
        exact kb_X11_near_27 Z    C   FV σ4 p0 p1 0 h H locs hP hS ls (lv_sub hl [1, 2, 3, 0] rfl)
      · have h := if_n h q3
        refine lv_bipush (v := (-2)) hx hb dX11_near_14 (by decide) ?_
        exact xr_iret hx hb hr hlocks hE hJ hK hP hS h dX11_near_16
def m_X11_near   (σ : SG) (p0 : Int32) (p1 : Int32) : Option (Int32 × SG) := m_X11_near_0   σ p0 p1
set_option maxHeartbeats 4000000 in
set_option maxRecDepth 100000 in
theorem k_X11_near (l : Launch) {E : EF} (Z : ZT)    (σ : SG) (p0 : Int32) (p1 : Int32) {res : Int32 × SG} (h : m_X11_near   σ p0 p1 = some res) : Met l yX11_near wsX11_near rm_X11_near (va_Pc [.ref (za Z 155), .int p0, .int p1] (wx E (zD Z) vwCl 211 (za Z) (tX Z) (tysX Z) σ)) (xQi E (zD Z) vwCl 211 (za Z) (tX Z) (tysX Z) res) 0 0 (ws_A 211 (za Z)) := by
  refine Met.ofW (cc := cX11_near) (maxL := 4) (ret := (some .int)) (by decide) rfl ?_
  intro p e s m args below meth c s₁ B hml hv
  obtain ⟨rfl, hE, hJ, hP, hK⟩ := hv
  have hl := lv_entry ([.ref (za Z 155), .int p0, .int p1]) (n := 4) (Nat.le_of_ble_eq_true rfl)
  rw [lg_entry_eq]
  generalize (lg_sl ([.ref (za Z 155), .int p0, .int p1]) ++ List.replicate (4 - (lg_sl ([.ref (za Z 155), .int p0, .int p1])).length) Slot.unset).toArray = ls at hl ⊢
  exact kb_X11_near_0 Z    ⟨B.exec, B.bytes, B.returns, B.notSynchronized, hml, findClass_of_methodNamed B.named, atoms_spec (ws := wsX11_near) B.pre, hE, hJ, hK⟩ σ p0 p1 h s.heap [] hP va_S.rf ls hl
/-! TuneSearch.distance(III)I -/
abbrev rm_X11_distance : Room := { frames := 5, cells := 0, slots := 0, locals := 129 }
theorem in_X11_distance_X11 : ∀ w ∈ wsX110, w ∈ wsX11_distance := by decide +kernel
def m_X11_distance_0    (σ : SG) (p0 : Int32) (p1 : Int32) (p2 : Int32) : Option (Int32 × SG) :=
  bi (m_X11_isTune  σ p0) (fun v1 σ2 => if v1 = 0 then (some ((-1), σ2)) else (bi (m_X11_isTune  σ2 p1) (fun v5 σ6 => if ¬ v5 = 0 then (if p2 < (-24) then (some ((-2), σ6)) else (if p2 ≤ 24 then (gB (inB p0 8) (gB (inB p1 8) (bi (m_X8_wholeCost p0.toNatClampNeg p1.toNatClampNeg σ6 p2 3072001) (fun v17 σ18 => some (v17, σ18))))) else (some ((-2), σ6)))) else (some ((-1), σ6)))))
set_option maxHeartbeats 4000000 in
set_option maxRecDepth 100000 in
theorem kb_X11_distance_0 {p : Program} {l : Launch} {e : Env} {s : State} {m : MethodId} {args : Array Value} {below : List Frame} {meth : Method} {c : Code} {E : EF} (Z : ZT)    (C : cy p s m args meth c cX11_distance (some .int) 4 RX11 wsX11_distance E (zD Z) vwCl 211 (za Z) (tysX Z)) {res : Int32 × SG}   : ∀ (σ : SG) (p0 : Int32) (p1 : Int32) (p2 : Int32) , m_X11_distance_0    σ p0 p1 p2 = some res → ∀ (H : Heap) (locs : List Loc), ws_P (zD Z) vwCl 211 (za Z) (tX Z) σ H → va_S (ws_A 211 (za Z)) s.heap H locs → ∀ (ls : Array Slot), lv_has ls 4 [(0, .ref (za Z 155)), (1, .int p0), (2, .int p1), (3, .int p2)] → W p l e rm_X11_distance s m args below meth c H locs 0 0 (MQ below (xQi E (zD Z) vwCl 211 (za Z) (tX Z) (tysX Z) res) args s 0 0 (ws_A 211 (za Z))) (F0 m 0 ls []) := by
  have C0 := C
  obtain ⟨hx, hb, hr, hlocks, hml, hown, hts, hE, hJ, hK⟩ := C0
  intro σ p0 p1 p2  h H locs hP hS ls hl
  unfold m_X11_distance_0 at h
  refine lv_aload_n hx hb dX11_distance_0 rfl (lv_at hl 0 rfl) ?_
  refine lv_iload_n hx hb dX11_distance_1 rfl (lv_at hl 1 rfl) ?_
  obtain ⟨v1, σ2, hm3, h⟩ := bi_e h
  refine xr_calli (res := (v1, σ2)) (va_runV (As := [.int p0]) (rest := []) ⟨hx, hb, hml, hown, hts⟩ (k_X11_isTune l Z   σ p0 hm3) (cwV 1 hts gX11_distance_X11_isTune rfl rfl rfl (by decide +kernel) ⟨Nat.le_of_ble_eq_true rfl, Nat.le_of_ble_eq_true rfl⟩) ⟨wx_blind, wr_recv hK hP (k := 155) (by decide) ((tX_TuneSearch Z) _ _ _) rfl, fun U hU hW => ⟨rfl, wx_at hE hJ hP hK hS hU hW⟩⟩ rfl rfl hl.1 rfl (lv_room (Nat.le_of_ble_eq_true rfl)) dX11_distance_2 ⟨Nat.le_of_ble_eq_true rfl, Nat.le_of_ble_eq_true rfl⟩) hS (fun H locs hP hS => ?_)
  have hP : ws_P (zD Z) vwCl 211 (za Z) (tX Z) σ2 H := hP
  refine lv_if_eq (tgt := 16) hx hb dX11_distance_5 (by decide) (fun q4 => ?_) (fun q4 => ?_)
  · have h := if_p h q4
    refine lv_iconst (v := (-1)) hx hb dX11_distance_16 (by decide) ?_
    exact xr_iret hx hb hr hlocks hE hJ hK hP hS h dX11_distance_17
  · have h := if_n h q4
    refine lv_aload_n hx hb dX11_distance_8 rfl (lv_at hl 0 rfl) ?_
    refine lv_iload_n hx hb dX11_distance_9 rfl (lv_at hl 2 rfl) ?_
    obtain ⟨v5, σ6, hm7, h⟩ := bi_e h
    refine xr_calli (res := (v5, σ6)) (va_runV (As := [.int p1]) (rest := []) ⟨hx, hb, hml, hown, hts⟩ (k_X11_isTune l Z   σ2 p1 hm7) (cwV 1 hts gX11_distance_X11_isTune rfl rfl rfl (by decide +kernel) ⟨Nat.le_of_ble_eq_true rfl, Nat.le_of_ble_eq_true rfl⟩) ⟨wx_blind, wr_recv hK hP (k := 155) (by decide) ((tX_TuneSearch Z) _ _ _) rfl, fun U hU hW => ⟨rfl, wx_at hE hJ hP hK hS hU hW⟩⟩ rfl rfl hl.1 rfl (lv_room (Nat.le_of_ble_eq_true rfl)) dX11_distance_10 ⟨Nat.le_of_ble_eq_true rfl, Nat.le_of_ble_eq_true rfl⟩) hS (fun H locs hP hS => ?_)
    have hP : ws_P (zD Z) vwCl 211 (za Z) (tX Z) σ6 H := hP
    refine lv_if_ne (tgt := 18) hx hb dX11_distance_13 (by decide) (fun q8 => ?_) (fun q8 => ?_)
    · have h := if_p h q8
      refine lv_iload_n hx hb dX11_distance_18 rfl (lv_at hl 3 rfl) ?_
      refine lv_bipush (v := (-24)) hx hb dX11_distance_19 (by decide) ?_
      refine lv_icmp_lt (tgt := 30) hx hb dX11_distance_21 (by decide) (fun q9 => ?_) (fun q9 => ?_)
      · have h := if_p h q9
        refine lv_bipush (v := (-2)) hx hb dX11_distance_30 (by decide) ?_
        exact xr_iret hx hb hr hlocks hE hJ hK hP hS h dX11_distance_32
      · have h := if_n h q9
        refine lv_iload_n hx hb dX11_distance_24 rfl (lv_at hl 3 rfl) ?_
        refine lv_bipush (v := 24) hx hb dX11_distance_25 (by decide) ?_
        refine lv_icmp_le (tgt := 33) hx hb dX11_distance_27 (by decide) (fun q10 => ?_) (fun q10 => ?_)
        · have h := if_p h q10
          refine lv_aload_n hx hb dX11_distance_33 rfl (lv_at hl 0 rfl) ?_
          refine wr_get (C := RX11) (T := TX11) (N := 16) hx hb hts (in_X11_distance_X11) hown hK hP (k := 155) (by decide) ((tX_TuneSearch Z) _ _ _) rfl 11 (by decide) (hts (.fieldLink RX11 66 "TuneSearch" "ways" "LTuneSearch$Ways;") (by decide +kernel)) (fun _ h9 => h9) rfl dX11_distance_34 ?_
          refine lv_aload_n hx hb dX11_distance_37 rfl (lv_at hl 0 rfl) ?_
          refine wr_get (C := RX11) (T := TX11) (N := 16) hx hb hts (in_X11_distance_X11) hown hK hP (k := 155) (by decide) ((tX_TuneSearch Z) _ _ _) rfl 3 (by decide) (hts (.fieldLink RX11 22 "TuneSearch" "prices" "[I") (by decide +kernel)) (fun _ h9 => h9) rfl dX11_distance_38 ?_
          refine lv_aload_n hx hb dX11_distance_41 rfl (lv_at hl 0 rfl) ?_
          refine wr_get (C := RX11) (T := TX11) (N := 16) hx hb hts (in_X11_distance_X11) hown hK hP (k := 155) (by decide) ((tX_TuneSearch Z) _ _ _) rfl 0 (by decide) (hts (.fieldLink RX11 11 "TuneSearch" "tunes" "[LTuneSearch$NoteRow;") (by decide +kernel)) (fun _ h9 => h9) rfl dX11_distance_42 ?_
          refine lv_iload_n hx hb dX11_distance_45 rfl (lv_at hl 1 rfl) ?_
          obtain ⟨b11, h⟩ := gB_e h
          have hi12 := inB_lt b11
          have hi13 : p0.toNatClampNeg < 9 := Nat.lt_of_lt_of_le hi12 (by decide)
          refine wr_aald hx hb hK hP (k := 148) (by decide) 3 rfl ((tX_tunes Z) _ _ _) rfl b11 (row_at hi12) dX11_distance_46 ?_
          refine lv_aload_n hx hb dX11_distance_47 rfl (lv_at hl 0 rfl) ?_
          refine wr_get (C := RX11) (T := TX11) (N := 16) hx hb hts (in_X11_distance_X11) hown hK hP (k := 155) (by decide) ((tX_TuneSearch Z) _ _ _) rfl 0 (by decide) (hts (.fieldLink RX11 11 "TuneSearch" "tunes" "[LTuneSearch$NoteRow;") (by decide +kernel)) (fun _ h9 => h9) rfl dX11_distance_48 ?_
          refine lv_iload_n hx hb dX11_distance_51 rfl (lv_at hl 2 rfl) ?_
          obtain ⟨b14, h⟩ := gB_e h
          have hi15 := inB_lt b14
          have hi16 : p1.toNatClampNeg < 9 := Nat.lt_of_lt_of_le hi15 (by decide)
          refine wr_aald hx hb hK hP (k := 148) (by decide) 3 rfl ((tX_tunes Z) _ _ _) rfl b14 (row_at hi15) dX11_distance_52 ?_
          refine lv_iload_n hx hb dX11_distance_53 rfl (lv_at hl 3 rfl) ?_
          refine lv_ldc (v := 3072001) hx hb hown (hts (.constant RX11 150 3072001) (by decide +kernel)) dX11_distance_54 ?_
          obtain ⟨v17, σ18, hm19, h⟩ := bi_e h
          refine xr_calli (res := (v17, σ18)) (va_runV (As := [.ref (za Z 18), .ref (za Z (156 + p0.toNatClampNeg)), .ref (za Z (156 + p1.toNatClampNeg)), .int p2, .int 3072001]) (rest := []) ⟨hx, hb, hml, hown, hts⟩ (k_X8_wholeCost l Z p0.toNatClampNeg p1.toNatClampNeg hi13 hi16 σ6 p2 3072001 hm19) (cwV 5 hts gX11_distance_X8_wholeCost rfl rfl rfl (by decide +kernel) ⟨Nat.le_of_ble_eq_true rfl, Nat.le_of_ble_eq_true rfl⟩) ⟨wx_blind, wr_recv hK hP (k := 206) (by decide) ((tX_Ways Z) _ _ _) rfl, fun U hU hW => ⟨rfl, wx_at hE hJ hP hK hS hU hW⟩⟩ rfl rfl hl.1 rfl (lv_room (Nat.le_of_ble_eq_true rfl)) dX11_distance_56 ⟨Nat.le_of_ble_eq_true rfl, Nat.le_of_ble_eq_true rfl⟩) hS (fun H locs hP hS => ?_)
          have hP : ws_P (zD Z) vwCl 211 (za Z) (tX Z) σ18 H := hP
          exact xr_iret hx hb hr hlocks hE hJ hK hP hS h dX11_distance_59
        · have h := if_n h q10
          refine lv_bipush (v := (-2)) hx hb dX11_distance_30 (by decide) ?_
          exact xr_iret hx hb hr hlocks hE hJ hK hP hS h dX11_distance_32
    · have h := if_n h (fun z => z q8)
      refine lv_iconst (v := (-1)) hx hb dX11_distance_16 (by decide) ?_
      exact xr_iret hx hb hr hlocks hE hJ hK hP hS h dX11_distance_17
def m_X11_distance   (σ : SG) (p0 : Int32) (p1 : Int32) (p2 : Int32) : Option (Int32 × SG) := m_X11_distance_0   σ p0 p1 p2
set_option maxHeartbeats 4000000 in
set_option maxRecDepth 100000 in
theorem k_X11_distance (l : Launch) {E : EF} (Z : ZT)    (σ : SG) (p0 : Int32) (p1 : Int32) (p2 : Int32) {res : Int32 × SG} (h : m_X11_distance   σ p0 p1 p2 = some res) : Met l yX11_distance wsX11_distance rm_X11_distance (va_Pc [.ref (za Z 155), .int p0, .int p1, .int p2] (wx E (zD Z) vwCl 211 (za Z) (tX Z) (tysX Z) σ)) (xQi E (zD Z) vwCl 211 (za Z) (tX Z) (tysX Z) res) 0 0 (ws_A 211 (za Z)) := by
  refine Met.ofW (cc := cX11_distance) (maxL := 4) (ret := (some .int)) (by decide) rfl ?_
  intro p e s m args below meth c s₁ B hml hv
  obtain ⟨rfl, hE, hJ, hP, hK⟩ := hv
  have hl := lv_entry ([.ref (za Z 155), .int p0, .int p1, .int p2]) (n := 4) (Nat.le_of_ble_eq_true rfl)
  rw [lg_entry_eq]
  generalize (lg_sl ([.ref (za Z 155), .int p0, .int p1, .int p2]) ++ List.replicate (4 - (lg_sl ([.ref (za Z 155), .int p0, .int p1, .int p2])).length) Slot.unset).toArray = ls at hl ⊢
  exact kb_X11_distance_0 Z    ⟨B.exec, B.bytes, B.returns, B.notSynchronized, hml, findClass_of_methodNamed B.named, atoms_spec (ws := wsX11_distance) B.pre, hE, hJ, hK⟩ σ p0 p1 p2 h s.heap [] hP va_S.rf ls hl
/-! TuneSearch.freight(II)J -/
abbrev rm_X11_freight : Room := { frames := 5, cells := 0, slots := 0, locals := 118 }
theorem in_X11_freight_X11 : ∀ w ∈ wsX110, w ∈ wsX11_freight := by decide +kernel
def m_X11_freight_0    (σ : SG) (p0 : Int32) (p1 : Int32) : Option (Int64 × SG) :=
  bi (m_X11_isTune  σ p0) (fun v1 σ2 => if v1 = 0 then (some ((-1), σ2)) else (bi (m_X11_isTune  σ2 p1) (fun v5 σ6 => if ¬ v5 = 0 then (gB (inB p0 8) (gB (inB p1 8) (bi (m_X0_load p0.toNatClampNeg p1.toNatClampNeg σ6 ) (fun v15 σ16 => bi (m_X0_leastCost  σ16 ) (fun v18 σ19 => some (v18, σ19)))))) else (some ((-1), σ6)))))
set_option maxHeartbeats 4000000 in
set_option maxRecDepth 100000 in
theorem kb_X11_freight_0 {p : Program} {l : Launch} {e : Env} {s : State} {m : MethodId} {args : Array Value} {below : List Frame} {meth : Method} {c : Code} {E : EF} (Z : ZT)    (C : cy p s m args meth c cX11_freight (some .long) 3 RX11 wsX11_freight E (zD Z) vwCl 211 (za Z) (tysX Z)) {res : Int64 × SG}   : ∀ (σ : SG) (p0 : Int32) (p1 : Int32) , m_X11_freight_0    σ p0 p1 = some res → ∀ (H : Heap) (locs : List Loc), ws_P (zD Z) vwCl 211 (za Z) (tX Z) σ H → va_S (ws_A 211 (za Z)) s.heap H locs → ∀ (ls : Array Slot), lv_has ls 3 [(0, .ref (za Z 155)), (1, .int p0), (2, .int p1)] → W p l e rm_X11_freight s m args below meth c H locs 0 0 (MQ below (xQl E (zD Z) vwCl 211 (za Z) (tX Z) (tysX Z) res) args s 0 0 (ws_A 211 (za Z))) (F0 m 0 ls []) := by
  have C0 := C
  obtain ⟨hx, hb, hr, hlocks, hml, hown, hts, hE, hJ, hK⟩ := C0
  intro σ p0 p1  h H locs hP hS ls hl
  unfold m_X11_freight_0 at h
  refine lv_aload_n hx hb dX11_freight_0 rfl (lv_at hl 0 rfl) ?_
  refine lv_iload_n hx hb dX11_freight_1 rfl (lv_at hl 1 rfl) ?_
  obtain ⟨v1, σ2, hm3, h⟩ := bi_e h
  refine xr_calli (res := (v1, σ2)) (va_runV (As := [.int p0]) (rest := []) ⟨hx, hb, hml, hown, hts⟩ (k_X11_isTune l Z   σ p0 hm3) (cwV 1 hts gX11_freight_X11_isTune rfl rfl rfl (by decide +kernel) ⟨Nat.le_of_ble_eq_true rfl, Nat.le_of_ble_eq_true rfl⟩) ⟨wx_blind, wr_recv hK hP (k := 155) (by decide) ((tX_TuneSearch Z) _ _ _) rfl, fun U hU hW => ⟨rfl, wx_at hE hJ hP hK hS hU hW⟩⟩ rfl rfl hl.1 rfl (lv_room (Nat.le_of_ble_eq_true rfl)) dX11_freight_2 ⟨Nat.le_of_ble_eq_true rfl, Nat.le_of_ble_eq_true rfl⟩) hS (fun H locs hP hS => ?_)
  have hP : ws_P (zD Z) vwCl 211 (za Z) (tX Z) σ2 H := hP
  refine lv_if_eq (tgt := 16) hx hb dX11_freight_5 (by decide) (fun q4 => ?_) (fun q4 => ?_)
  · have h := if_p h q4
    refine lv_ldc2 (v := (-1)) hx hb hown (hts (.constantLong RX11 155 (-1)) (by decide +kernel)) dX11_freight_16 ?_
    exact xr_lret hx hb hr hlocks hE hJ hK hP hS h dX11_freight_19
  · have h := if_n h q4
    refine lv_aload_n hx hb dX11_freight_8 rfl (lv_at hl 0 rfl) ?_
    refine lv_iload_n hx hb dX11_freight_9 rfl (lv_at hl 2 rfl) ?_
    obtain ⟨v5, σ6, hm7, h⟩ := bi_e h
    refine xr_calli (res := (v5, σ6)) (va_runV (As := [.int p1]) (rest := []) ⟨hx, hb, hml, hown, hts⟩ (k_X11_isTune l Z   σ2 p1 hm7) (cwV 1 hts gX11_freight_X11_isTune rfl rfl rfl (by decide +kernel) ⟨Nat.le_of_ble_eq_true rfl, Nat.le_of_ble_eq_true rfl⟩) ⟨wx_blind, wr_recv hK hP (k := 155) (by decide) ((tX_TuneSearch Z) _ _ _) rfl, fun U hU hW => ⟨rfl, wx_at hE hJ hP hK hS hU hW⟩⟩ rfl rfl hl.1 rfl (lv_room (Nat.le_of_ble_eq_true rfl)) dX11_freight_10 ⟨Nat.le_of_ble_eq_true rfl, Nat.le_of_ble_eq_true rfl⟩) hS (fun H locs hP hS => ?_)
    have hP : ws_P (zD Z) vwCl 211 (za Z) (tX Z) σ6 H := hP
    refine lv_if_ne (tgt := 20) hx hb dX11_freight_13 (by decide) (fun q8 => ?_) (fun q8 => ?_)
    · have h := if_p h q8
      refine lv_aload_n hx hb dX11_freight_20 rfl (lv_at hl 0 rfl) ?_
      refine wr_get (C := RX11) (T := TX11) (N := 16) hx hb hts (in_X11_freight_X11) hown hK hP (k := 155) (by decide) ((tX_TuneSearch Z) _ _ _) rfl 13 (by decide) (hts (.fieldLink RX11 80 "TuneSearch" "carrier" "LTuneSearch$Carrier;") (by decide +kernel)) (fun _ h9 => h9) rfl dX11_freight_21 ?_
      refine lv_aload_n hx hb dX11_freight_24 rfl (lv_at hl 0 rfl) ?_
      refine wr_get (C := RX11) (T := TX11) (N := 16) hx hb hts (in_X11_freight_X11) hown hK hP (k := 155) (by decide) ((tX_TuneSearch Z) _ _ _) rfl 0 (by decide) (hts (.fieldLink RX11 11 "TuneSearch" "tunes" "[LTuneSearch$NoteRow;") (by decide +kernel)) (fun _ h9 => h9) rfl dX11_freight_25 ?_
      refine lv_iload_n hx hb dX11_freight_28 rfl (lv_at hl 1 rfl) ?_
      obtain ⟨b9, h⟩ := gB_e h
      have hi10 := inB_lt b9
      have hi11 : p0.toNatClampNeg < 9 := Nat.lt_of_lt_of_le hi10 (by decide)
      refine wr_aald hx hb hK hP (k := 148) (by decide) 3 rfl ((tX_tunes Z) _ _ _) rfl b9 (row_at hi10) dX11_freight_29 ?_
      refine lv_aload_n hx hb dX11_freight_30 rfl (lv_at hl 0 rfl) ?_
      refine wr_get (C := RX11) (T := TX11) (N := 16) hx hb hts (in_X11_freight_X11) hown hK hP (k := 155) (by decide) ((tX_TuneSearch Z) _ _ _) rfl 0 (by decide) (hts (.fieldLink RX11 11 "TuneSearch" "tunes" "[LTuneSearch$NoteRow;") (by decide +kernel)) (fun _ h9 => h9) rfl dX11_freight_31 ?_
      refine lv_iload_n hx hb dX11_freight_34 rfl (lv_at hl 2 rfl) ?_
      obtain ⟨b12, h⟩ := gB_e h
      have hi13 := inB_lt b12
      have hi14 : p1.toNatClampNeg < 9 := Nat.lt_of_lt_of_le hi13 (by decide)
      refine wr_aald hx hb hK hP (k := 148) (by decide) 3 rfl ((tX_tunes Z) _ _ _) rfl b12 (row_at hi13) dX11_freight_35 ?_
      obtain ⟨v15, σ16, hm17, h⟩ := bi_e h
      refine xr_callv (res := (v15, σ16)) (va_runV (As := [.ref (za Z (156 + p0.toNatClampNeg)), .ref (za Z (156 + p1.toNatClampNeg))]) (rest := []) ⟨hx, hb, hml, hown, hts⟩ (k_X0_load l Z p0.toNatClampNeg p1.toNatClampNeg hi11 hi14 σ6  hm17) (cwV 2 hts gX11_freight_X0_load rfl rfl rfl (by decide +kernel) ⟨Nat.le_of_ble_eq_true rfl, Nat.le_of_ble_eq_true rfl⟩) ⟨wx_blind, wr_recv hK hP (k := 210) (by decide) ((tX_Carrier Z) _ _ _) rfl, fun U hU hW => ⟨rfl, wx_at hE hJ hP hK hS hU hW⟩⟩ rfl rfl hl.1 rfl (lv_room (Nat.le_of_ble_eq_true rfl)) dX11_freight_36 ⟨Nat.le_of_ble_eq_true rfl, Nat.le_of_ble_eq_true rfl⟩) hS (fun H locs hP hS => ?_)
      have hP : ws_P (zD Z) vwCl 211 (za Z) (tX Z) σ16 H := hP
      refine lv_aload_n hx hb dX11_freight_39 rfl (lv_at hl 0 rfl) ?_
      refine wr_get (C := RX11) (T := TX11) (N := 16) hx hb hts (in_X11_freight_X11) hown hK hP (k := 155) (by decide) ((tX_TuneSearch Z) _ _ _) rfl 13 (by decide) (hts (.fieldLink RX11 80 "TuneSearch" "carrier" "LTuneSearch$Carrier;") (by decide +kernel)) (fun _ h9 => h9) rfl dX11_freight_40 ?_
      refine lv_aload_n hx hb dX11_freight_43 rfl (lv_at hl 0 rfl) ?_
      refine wr_get (C := RX11) (T := TX11) (N := 16) hx hb hts (in_X11_freight_X11) hown hK hP (k := 155) (by decide) ((tX_TuneSearch Z) _ _ _) rfl 3 (by decide) (hts (.fieldLink RX11 22 "TuneSearch" "prices" "[I") (by decide +kernel)) (fun _ h9 => h9) rfl dX11_freight_44 ?_
      obtain ⟨v18, σ19, hm20, h⟩ := bi_e h
      refine xr_calll (res := (v18, σ19)) (va_runV (As := [.ref (za Z 18)]) (rest := []) ⟨hx, hb, hml, hown, hts⟩ (k_X0_leastCost l Z   σ16  hm20) (cwV 1 hts gX11_freight_X0_leastCost rfl rfl rfl (by decide +kernel) ⟨Nat.le_of_ble_eq_true rfl, Nat.le_of_ble_eq_true rfl⟩) ⟨wx_blind, wr_recv hK hP (k := 210) (by decide) ((tX_Carrier Z) _ _ _) rfl, fun U hU hW => ⟨rfl, wx_at hE hJ hP hK hS hU hW⟩⟩ rfl rfl hl.1 rfl (lv_room (Nat.le_of_ble_eq_true rfl)) dX11_freight_47 ⟨Nat.le_of_ble_eq_true rfl, Nat.le_of_ble_eq_true rfl⟩) hS (fun H locs hP hS => ?_)
      have hP : ws_P (zD Z) vwCl 211 (za Z) (tX Z) σ19 H := hP
      exact xr_lret hx hb hr hlocks hE hJ hK hP hS h dX11_freight_50
    · have h := if_n h (fun z => z q8)
      refine lv_ldc2 (v := (-1)) hx hb hown (hts (.constantLong RX11 155 (-1)) (by decide +kernel)) dX11_freight_16 ?_
      exact xr_lret hx hb hr hlocks hE hJ hK hP hS h dX11_freight_19
def m_X11_freight   (σ : SG) (p0 : Int32) (p1 : Int32) : Option (Int64 × SG) := m_X11_freight_0   σ p0 p1
set_option maxHeartbeats 4000000 in
set_option maxRecDepth 100000 in
theorem k_X11_freight (l : Launch) {E : EF} (Z : ZT)    (σ : SG) (p0 : Int32) (p1 : Int32) {res : Int64 × SG} (h : m_X11_freight   σ p0 p1 = some res) : Met l yX11_freight wsX11_freight rm_X11_freight (va_Pc [.ref (za Z 155), .int p0, .int p1] (wx E (zD Z) vwCl 211 (za Z) (tX Z) (tysX Z) σ)) (xQl E (zD Z) vwCl 211 (za Z) (tX Z) (tysX Z) res) 0 0 (ws_A 211 (za Z)) := by
  refine Met.ofW (cc := cX11_freight) (maxL := 3) (ret := (some .long)) (by decide) rfl ?_
  intro p e s m args below meth c s₁ B hml hv
  obtain ⟨rfl, hE, hJ, hP, hK⟩ := hv
  have hl := lv_entry ([.ref (za Z 155), .int p0, .int p1]) (n := 3) (Nat.le_of_ble_eq_true rfl)
  rw [lg_entry_eq]
  generalize (lg_sl ([.ref (za Z 155), .int p0, .int p1]) ++ List.replicate (3 - (lg_sl ([.ref (za Z 155), .int p0, .int p1])).length) Slot.unset).toArray = ls at hl ⊢
  exact kb_X11_freight_0 Z    ⟨B.exec, B.bytes, B.returns, B.notSynchronized, hml, findClass_of_methodNamed B.named, atoms_spec (ws := wsX11_freight) B.pre, hE, hJ, hK⟩ σ p0 p1 h s.heap [] hP va_S.rf ls hl
/-! TuneSearch.areNear(LTuneSearch$NoteRow;LTuneSearch$NoteRow;I)Z -/
abbrev rm_X11_areNear : Room := { frames := 5, cells := 0, slots := 0, locals := 129 }
theorem in_X11_areNear_X11 : ∀ w ∈ wsX110, w ∈ wsX11_areNear := by decide +kernel
def m_X11_areNear_0  (r0 : Nat) (r1 : Nat)  (σ : SG) (p2 : Int32) : Option (Int32 × SG) :=
  bi (m_X8_wholeCost r0 r1 σ 0 p2) (fun v1 σ2 => if v1 ≤ p2 then (some (1, σ2)) else (bi (m_X8_wholeCost r1 r0 σ2 0 p2) (fun v5 σ6 => if p2 < v5 then (some (0, σ6)) else (some (1, σ6)))))
set_option maxHeartbeats 4000000 in
set_option maxRecDepth 100000 in
theorem kb_X11_areNear_0 {p : Program} {l : Launch} {e : Env} {s : State} {m : MethodId} {args : Array Value} {below : List Frame} {meth : Method} {c : Code} {E : EF} (Z : ZT)  (r0 : Nat) (r1 : Nat) (hr0 : r0 < 9) (hr1 : r1 < 9) (C : cy p s m args meth c cX11_areNear (some .boolean) 4 RX11 wsX11_areNear E (zD Z) vwCl 211 (za Z) (tysX Z)) {res : Int32 × SG}   : ∀ (σ : SG) (p2 : Int32) , m_X11_areNear_0  r0 r1  σ p2 = some res → ∀ (H : Heap) (locs : List Loc), ws_P (zD Z) vwCl 211 (za Z) (tX Z) σ H → va_S (ws_A 211 (za Z)) s.heap H locs → ∀ (ls : Array Slot), lv_has ls 4 [(0, .ref (za Z 155)), (1, .ref (za Z (156 + r0))), (2, .ref (za Z (156 + r1))), (3, .int p2)] → W p l e rm_X11_areNear s m args below meth c H locs 0 0 (MQ below (xQi E (zD Z) vwCl 211 (za Z) (tX Z) (tysX Z) res) args s 0 0 (ws_A 211 (za Z))) (F0 m 0 ls []) := by
  have C0 := C
  obtain ⟨hx, hb, hr, hlocks, hml, hown, hts, hE, hJ, hK⟩ := C0
  intro σ p2  h H locs hP hS ls hl
  unfold m_X11_areNear_0 at h
  refine lv_aload_n hx hb dX11_areNear_0 rfl (lv_at hl 0 rfl) ?_
  refine wr_get (C := RX11) (T := TX11) (N := 16) hx hb hts (in_X11_areNear_X11) hown hK hP (k := 155) (by decide) ((tX_TuneSearch Z) _ _ _) rfl 11 (by decide) (hts (.fieldLink RX11 66 "TuneSearch" "ways" "LTuneSearch$Ways;") (by decide +kernel)) (fun _ h9 => h9) rfl dX11_areNear_1 ?_
  refine lv_aload_n hx hb dX11_areNear_4 rfl (lv_at hl 0 rfl) ?_
  refine wr_get (C := RX11) (T := TX11) (N := 16) hx hb hts (in_X11_areNear_X11) hown hK hP (k := 155) (by decide) ((tX_TuneSearch Z) _ _ _) rfl 3 (by decide) (hts (.fieldLink RX11 22 "TuneSearch" "prices" "[I") (by decide +kernel)) (fun _ h9 => h9) rfl dX11_areNear_5 ?_
  refine lv_aload_n hx hb dX11_areNear_8 rfl (lv_at hl 1 rfl) ?_
  refine lv_aload_n hx hb dX11_areNear_9 rfl (lv_at hl 2 rfl) ?_
  refine lv_iconst (v := 0) hx hb dX11_areNear_10 (by decide) ?_
  refine lv_iload_n hx hb dX11_areNear_11 rfl (lv_at hl 3 rfl) ?_
  obtain ⟨v1, σ2, hm3, h⟩ := bi_e h
  refine xr_calli (res := (v1, σ2)) (va_runV (As := [.ref (za Z 18), .ref (za Z (156 + r0)), .ref (za Z (156 + r1)), .int 0, .int p2]) (rest := []) ⟨hx, hb, hml, hown, hts⟩ (k_X8_wholeCost l Z r0 r1 hr0 hr1 σ 0 p2 hm3) (cwV 5 hts gX11_areNear_X8_wholeCost rfl rfl rfl (by decide +kernel) ⟨Nat.le_of_ble_eq_true rfl, Nat.le_of_ble_eq_true rfl⟩) ⟨wx_blind, wr_recv hK hP (k := 206) (by decide) ((tX_Ways Z) _ _ _) rfl, fun U hU hW => ⟨rfl, wx_at hE hJ hP hK hS hU hW⟩⟩ rfl rfl hl.1 rfl (lv_room (Nat.le_of_ble_eq_true rfl)) dX11_areNear_12 ⟨Nat.le_of_ble_eq_true rfl, Nat.le_of_ble_eq_true rfl⟩) hS (fun H locs hP hS => ?_)
  have hP : ws_P (zD Z) vwCl 211 (za Z) (tX Z) σ2 H := hP
  refine lv_iload_n hx hb dX11_areNear_15 rfl (lv_at hl 3 rfl) ?_
  refine lv_icmp_le (tgt := 38) hx hb dX11_areNear_16 (by decide) (fun q4 => ?_) (fun q4 => ?_)
  · have h := if_p h q4
    refine lv_iconst (v := 1) hx hb dX11_areNear_38 (by decide) ?_
    refine lv_goto (tgt := 43) hx hb dX11_areNear_39 (by decide) ?_
    exact xr_zret hx hb hr hlocks hE hJ hK hP hS rfl h dX11_areNear_43
  · have h := if_n h q4
    refine lv_aload_n hx hb dX11_areNear_19 rfl (lv_at hl 0 rfl) ?_
    refine wr_get (C := RX11) (T := TX11) (N := 16) hx hb hts (in_X11_areNear_X11) hown hK hP (k := 155) (by decide) ((tX_TuneSearch Z) _ _ _) rfl 11 (by decide) (hts (.fieldLink RX11 66 "TuneSearch" "ways" "LTuneSearch$Ways;") (by decide +kernel)) (fun _ h9 => h9) rfl dX11_areNear_20 ?_
    refine lv_aload_n hx hb dX11_areNear_23 rfl (lv_at hl 0 rfl) ?_
    refine wr_get (C := RX11) (T := TX11) (N := 16) hx hb hts (in_X11_areNear_X11) hown hK hP (k := 155) (by decide) ((tX_TuneSearch Z) _ _ _) rfl 3 (by decide) (hts (.fieldLink RX11 22 "TuneSearch" "prices" "[I") (by decide +kernel)) (fun _ h9 => h9) rfl dX11_areNear_24 ?_
    refine lv_aload_n hx hb dX11_areNear_27 rfl (lv_at hl 2 rfl) ?_
    refine lv_aload_n hx hb dX11_areNear_28 rfl (lv_at hl 1 rfl) ?_
    refine lv_iconst (v := 0) hx hb dX11_areNear_29 (by decide) ?_
    refine lv_iload_n hx hb dX11_areNear_30 rfl (lv_at hl 3 rfl) ?_
    obtain ⟨v5, σ6, hm7, h⟩ := bi_e h
    refine xr_calli (res := (v5, σ6)) (va_runV (As := [.ref (za Z 18), .ref (za Z (156 + r1)), .ref (za Z (156 + r0)), .int 0, .int p2]) (rest := []) ⟨hx, hb, hml, hown, hts⟩ (k_X8_wholeCost l Z r1 r0 hr1 hr0 σ2 0 p2 hm7) (cwV 5 hts gX11_areNear_X8_wholeCost rfl rfl rfl (by decide +kernel) ⟨Nat.le_of_ble_eq_true rfl, Nat.le_of_ble_eq_true rfl⟩) ⟨wx_blind, wr_recv hK hP (k := 206) (by decide) ((tX_Ways Z) _ _ _) rfl, fun U hU hW => ⟨rfl, wx_at hE hJ hP hK hS hU hW⟩⟩ rfl rfl hl.1 rfl (lv_room (Nat.le_of_ble_eq_true rfl)) dX11_areNear_31 ⟨Nat.le_of_ble_eq_true rfl, Nat.le_of_ble_eq_true rfl⟩) hS (fun H locs hP hS => ?_)
    have hP : ws_P (zD Z) vwCl 211 (za Z) (tX Z) σ6 H := hP
    refine lv_iload_n hx hb dX11_areNear_34 rfl (lv_at hl 3 rfl) ?_
    refine lv_icmp_gt (tgt := 42) hx hb dX11_areNear_35 (by decide) (fun q8 => ?_) (fun q8 => ?_)
    · have h := if_p h q8
      refine lv_iconst (v := 0) hx hb dX11_areNear_42 (by decide) ?_
      exact xr_zret hx hb hr hlocks hE hJ hK hP hS rfl h dX11_areNear_43
    · have h := if_n h q8
      refine lv_iconst (v := 1) hx hb dX11_areNear_38 (by decide) ?_
      refine lv_goto (tgt := 43) hx hb dX11_areNear_39 (by decide) ?_
      exact xr_zret hx hb hr hlocks hE hJ hK hP hS rfl h dX11_areNear_43
def m_X11_areNear  (r0 : Nat) (r1 : Nat) (σ : SG) (p2 : Int32) : Option (Int32 × SG) := m_X11_areNear_0  r0 r1 σ p2
set_option maxHeartbeats 4000000 in
set_option maxRecDepth 100000 in
theorem k_X11_areNear (l : Launch) {E : EF} (Z : ZT)  (r0 : Nat) (r1 : Nat) (hr0 : r0 < 9) (hr1 : r1 < 9) (σ : SG) (p2 : Int32) {res : Int32 × SG} (h : m_X11_areNear  r0 r1 σ p2 = some res) : Met l yX11_areNear wsX11_areNear rm_X11_areNear (va_Pc [.ref (za Z 155), .ref (za Z (156 + r0)), .ref (za Z (156 + r1)), .int p2] (wx E (zD Z) vwCl 211 (za Z) (tX Z) (tysX Z) σ)) (xQi E (zD Z) vwCl 211 (za Z) (tX Z) (tysX Z) res) 0 0 (ws_A 211 (za Z)) := by
  refine Met.ofW (cc := cX11_areNear) (maxL := 4) (ret := (some .boolean)) (by decide) rfl ?_
  intro p e s m args below meth c s₁ B hml hv
  obtain ⟨rfl, hE, hJ, hP, hK⟩ := hv
  have hl := lv_entry ([.ref (za Z 155), .ref (za Z (156 + r0)), .ref (za Z (156 + r1)), .int p2]) (n := 4) (Nat.le_of_ble_eq_true rfl)
  rw [lg_entry_eq]
  generalize (lg_sl ([.ref (za Z 155), .ref (za Z (156 + r0)), .ref (za Z (156 + r1)), .int p2]) ++ List.replicate (4 - (lg_sl ([.ref (za Z 155), .ref (za Z (156 + r0)), .ref (za Z (156 + r1)), .int p2])).length) Slot.unset).toArray = ls at hl ⊢
  exact kb_X11_areNear_0 Z  r0 r1 hr0 hr1 ⟨B.exec, B.bytes, B.returns, B.notSynchronized, hml, findClass_of_methodNamed B.named, atoms_spec (ws := wsX11_areNear) B.pre, hE, hJ, hK⟩ σ p2 h s.heap [] hP va_S.rf ls hl
/-! TuneSearch.joinFamilies(II)V -/
abbrev rm_X11_joinFamilies : Room := { frames := 1, cells := 0, slots := 0, locals := 21 }
theorem in_X11_joinFamilies_X11 : ∀ w ∈ wsX110, w ∈ wsX11_joinFamilies := by decide +kernel
def m_X11_joinFamilies_48   (c9 : SG → Int32 → Int32 → Int32 → Int32 → Option (Unit × SG)) (σ : SG) (l1 : Int32) (l2 : Int32) (l3 : Int32) (l4 : Int32) : Option (Unit × SG) :=
  lS (l4 + 1) (fun v11 => c9 σ l1 l2 l3 v11)
set_option maxHeartbeats 4000000 in
set_option maxRecDepth 100000 in
theorem kb_X11_joinFamilies_48 {p : Program} {l : Launch} {e : Env} {s : State} {m : MethodId} {args : Array Value} {below : List Frame} {meth : Method} {c : Code} {E : EF} (Z : ZT)    (C : cy p s m args meth c cX11_joinFamilies none 5 RX11 wsX11_joinFamilies E (zD Z) vwCl 211 (za Z) (tysX Z)) {res : Unit × SG} {c9 : SG → Int32 → Int32 → Int32 → Int32 → Option (Unit × SG)} (hc9 : ∀ (σ : SG) (l1 : Int32) (l2 : Int32) (l3 : Int32) (l4 : Int32) , c9 σ l1 l2 l3 l4 = some res → ∀ (H : Heap) (locs : List Loc), ws_P (zD Z) vwCl 211 (za Z) (tX Z) σ H → va_S (ws_A 211 (za Z)) s.heap H locs → ∀ (ls : Array Slot), lv_has ls 5 [(0, .ref (za Z 155)), (1, .int l1), (2, .int l2), (3, .int l3), (4, .int l4)] → W p l e rm_X11_joinFamilies s m args below meth c H locs 0 0 (MQ below (xQv E (zD Z) vwCl 211 (za Z) (tX Z) (tysX Z) res) args s 0 0 (ws_A 211 (za Z))) (F0 m 9 ls [])) : ∀ (σ : SG) (l1 : Int32) (l2 : Int32) (l3 : Int32) (l4 : Int32) , m_X11_joinFamilies_48   c9 σ l1 l2 l3 l4 = some res → ∀ (H : Heap) (locs : List Loc), ws_P (zD Z) vwCl 211 (za Z) (tX Z) σ H → va_S (ws_A 211 (za Z)) s.heap H locs → ∀ (ls : Array Slot), lv_has ls 5 [(0, .ref (za Z 155)), (1, .int l1), (2, .int l2), (3, .int l3), (4, .int l4)] → W p l e rm_X11_joinFamilies s m args below meth c H locs 0 0 (MQ below (xQv E (zD Z) vwCl 211 (za Z) (tX Z) (tysX Z) res) args s 0 0 (ws_A 211 (za Z))) (F0 m 48 ls []) := by
  have C0 := C
  obtain ⟨hx, hb, hr, hlocks, hml, hown, hts, hE, hJ, hK⟩ := C0
  intro σ l1 l2 l3 l4  h H locs hP hS ls hl
  unfold m_X11_joinFamilies_48 at h
  obtain ⟨v11, e12, h⟩ := lS_e h
  refine lv_iinc (v := v11) (lv' := [(4, .int v11), (0, .ref (za Z 155)), (1, .int l1), (2, .int l2), (3, .int l3)]) hx hb dX11_joinFamilies_48 hl (k := 4) rfl (by rw [e12]; rfl) (by decide) rfl (fun ls hl => ?_)
  refine lv_goto (tgt := 9) hx hb dX11_joinFamilies_51 (by decide) ?_
  exact hc9 σ l1 l2 l3 v11 h H locs hP hS ls (lv_sub hl [1, 2, 3, 4, 0] rfl)
def m_X11_joinFamilies_40   (c9 : SG → Int32 → Int32 → Int32 → Int32 → Option (Unit × SG)) (σ : SG) (l1 : Int32) (l2 : Int32) (l3 : Int32) (l4 : Int32) : Option (Unit × SG) :=
  gB (inB l4 8) (lS (sI σ 40 l4.toNatClampNeg l3) (fun σ9 => m_X11_joinFamilies_48   c9 σ9 l1 l2 l3 l4))
set_option maxHeartbeats 4000000 in
set_option maxRecDepth 100000 in
theorem kb_X11_joinFamilies_40 {p : Program} {l : Launch} {e : Env} {s : State} {m : MethodId} {args : Array Value} {below : List Frame} {meth : Method} {c : Code} {E : EF} (Z : ZT)    (C : cy p s m args meth c cX11_joinFamilies none 5 RX11 wsX11_joinFamilies E (zD Z) vwCl 211 (za Z) (tysX Z)) {res : Unit × SG} {c9 : SG → Int32 → Int32 → Int32 → Int32 → Option (Unit × SG)} (hc9 : ∀ (σ : SG) (l1 : Int32) (l2 : Int32) (l3 : Int32) (l4 : Int32) , c9 σ l1 l2 l3 l4 = some res → ∀ (H : Heap) (locs : List Loc), ws_P (zD Z) vwCl 211 (za Z) (tX Z) σ H → va_S (ws_A 211 (za Z)) s.heap H locs → ∀ (ls : Array Slot), lv_has ls 5 [(0, .ref (za Z 155)), (1, .int l1), (2, .int l2), (3, .int l3), (4, .int l4)] → W p l e rm_X11_joinFamilies s m args below meth c H locs 0 0 (MQ below (xQv E (zD Z) vwCl 211 (za Z) (tX Z) (tysX Z) res) args s 0 0 (ws_A 211 (za Z))) (F0 m 9 ls [])) : ∀ (σ : SG) (l1 : Int32) (l2 : Int32) (l3 : Int32) (l4 : Int32) , m_X11_joinFamilies_40   c9 σ l1 l2 l3 l4 = some res → ∀ (H : Heap) (locs : List Loc), ws_P (zD Z) vwCl 211 (za Z) (tX Z) σ H → va_S (ws_A 211 (za Z)) s.heap H locs → ∀ (ls : Array Slot), lv_has ls 5 [(0, .ref (za Z 155)), (1, .int l1), (2, .int l2), (3, .int l3), (4, .int l4)] → W p l e rm_X11_joinFamilies s m args below meth c H locs 0 0 (MQ below (xQv E (zD Z) vwCl 211 (za Z) (tX Z) (tysX Z) res) args s 0 0 (ws_A 211 (za Z))) (F0 m 40 ls []) := by
  have C0 := C
  obtain ⟨hx, hb, hr, hlocks, hml, hown, hts, hE, hJ, hK⟩ := C0
  intro σ l1 l2 l3 l4  h H locs hP hS ls hl
  unfold m_X11_joinFamilies_40 at h
  refine lv_aload_n hx hb dX11_joinFamilies_40 rfl (lv_at hl 0 rfl) ?_
  refine wr_get (C := RX11) (T := TX11) (N := 16) hx hb hts (in_X11_joinFamilies_X11) hown hK hP (k := 155) (by decide) ((tX_TuneSearch Z) _ _ _) rfl 14 (by decide) (hts (.fieldLink RX11 84 "TuneSearch" "familyHeads" "[I") (by decide +kernel)) (fun _ h9 => h9) rfl dX11_joinFamilies_41 ?_
  refine lv_iload hx hb dX11_joinFamilies_44 (lv_at hl 4 rfl) ?_
  refine lv_iload_n hx hb dX11_joinFamilies_46 rfl (lv_at hl 3 rfl) ?_
  obtain ⟨b8, h⟩ := gB_e h
  refine wr_iast hx hb hK hP hJ hS (k := 40) (by decide) 0 (tX_I Z 40 (by decide)) rfl b8 dX11_joinFamilies_47 (fun H locs hP hS => ?_)
  obtain ⟨σ9, e10, h⟩ := lS_e h
  rw [← e10] at hP
  exact kb_X11_joinFamilies_48 Z    C  hc9 σ9 l1 l2 l3 l4 h H locs hP hS ls (lv_sub hl [0, 1, 2, 3, 4] rfl)
def m_X11_joinFamilies_9_s    (c9 : SG → Int32 → Int32 → Int32 → Int32 → Option (Unit × SG)) (σ : SG) (l1 : Int32) (l2 : Int32) (l3 : Int32) (l4 : Int32) : Option (Unit × SG) :=
  if (σ.1 155 15) ≤ l4 then (some ((), σ)) else (gB (inB l4 8) (if (σ.1 40 l4.toNatClampNeg) = l1 then (m_X11_joinFamilies_40   c9 σ l1 l2 l3 l4) else (gB (inB l4 8) (if ¬ (σ.1 40 l4.toNatClampNeg) = l2 then (m_X11_joinFamilies_48   c9 σ l1 l2 l3 l4) else (m_X11_joinFamilies_40   c9 σ l1 l2 l3 l4)))))
def m_X11_joinFamilies_9    : Nat → SG → Int32 → Int32 → Int32 → Int32 → Option (Unit × SG)
  | 0, _, _, _, _, _ => none
  | n + 1, σ, l1, l2, l3, l4 => m_X11_joinFamilies_9_s    (m_X11_joinFamilies_9    n) σ l1 l2 l3 l4
set_option maxHeartbeats 4000000 in
set_option maxRecDepth 100000 in
theorem kb_X11_joinFamilies_9 {p : Program} {l : Launch} {e : Env} {s : State} {m : MethodId} {args : Array Value} {below : List Frame} {meth : Method} {c : Code} {E : EF} (Z : ZT)    (C : cy p s m args meth c cX11_joinFamilies none 5 RX11 wsX11_joinFamilies E (zD Z) vwCl 211 (za Z) (tysX Z)) {res : Unit × SG}   : ∀ (n : Nat) (σ : SG) (l1 : Int32) (l2 : Int32) (l3 : Int32) (l4 : Int32) , m_X11_joinFamilies_9    n σ l1 l2 l3 l4 = some res → ∀ (H : Heap) (locs : List Loc), ws_P (zD Z) vwCl 211 (za Z) (tX Z) σ H → va_S (ws_A 211 (za Z)) s.heap H locs → ∀ (ls : Array Slot), lv_has ls 5 [(0, .ref (za Z 155)), (1, .int l1), (2, .int l2), (3, .int l3), (4, .int l4)] → W p l e rm_X11_joinFamilies s m args below meth c H locs 0 0 (MQ below (xQv E (zD Z) vwCl 211 (za Z) (tX Z) (tysX Z) res) args s 0 0 (ws_A 211 (za Z))) (F0 m 9 ls []) := by
  have C0 := C
  obtain ⟨hx, hb, hr, hlocks, hml, hown, hts, hE, hJ, hK⟩ := C0
  intro n
  induction n with
  | zero =>
    intro σ l1 l2 l3 l4  h
    cases h
  | succ n ih =>
    intro σ l1 l2 l3 l4  h H locs hP hS ls hl
    have hc9 : ∀ (σ : SG) (l1 : Int32) (l2 : Int32) (l3 : Int32) (l4 : Int32) , m_X11_joinFamilies_9    n σ l1 l2 l3 l4 = some res → ∀ (H : Heap) (locs : List Loc), ws_P (zD Z) vwCl 211 (za Z) (tX Z) σ H → va_S (ws_A 211 (za Z)) s.heap H locs → ∀ (ls : Array Slot), lv_has ls 5 [(0, .ref (za Z 155)), (1, .int l1), (2, .int l2), (3, .int l3), (4, .int l4)] → W p l e rm_X11_joinFamilies s m args below meth c H locs 0 0 (MQ below (xQv E (zD Z) vwCl 211 (za Z) (tX Z) (tysX Z) res) args s 0 0 (ws_A 211 (za Z))) (F0 m 9 ls []) := ih
    have h : m_X11_joinFamilies_9_s    (m_X11_joinFamilies_9    n) σ l1 l2 l3 l4 = some res := h
    unfold m_X11_joinFamilies_9_s at h
    refine lv_iload hx hb dX11_joinFamilies_9 (lv_at hl 4 rfl) ?_
    refine lv_aload_n hx hb dX11_joinFamilies_11 rfl (lv_at hl 0 rfl) ?_
    refine wr_get (C := RX11) (T := TX11) (N := 16) hx hb hts (in_X11_joinFamilies_X11) hown hK hP (k := 155) (by decide) ((tX_TuneSearch Z) _ _ _) rfl 15 (by decide) (hts (.fieldLink RX11 178 "TuneSearch" "familyTunes" "I") (by decide +kernel)) (fun _ h9 => h9) rfl dX11_joinFamilies_12 ?_
    refine lv_icmp_ge (tgt := 54) hx hb dX11_joinFamilies_15 (by decide) (fun q3 => ?_) (fun q3 => ?_)
    · have h := if_p h q3
      exact xr_vret hx hb hr hlocks hE hJ hK hP hS h dX11_joinFamilies_54
    · have h := if_n h q3
      refine lv_aload_n hx hb dX11_joinFamilies_18 rfl (lv_at hl 0 rfl) ?_
      refine wr_get (C := RX11) (T := TX11) (N := 16) hx hb hts (in_X11_joinFamilies_X11) hown hK hP (k := 155) (by decide) ((tX_TuneSearch Z) _ _ _) rfl 14 (by decide) (hts (.fieldLink RX11 84 "TuneSearch" "familyHeads" "[I") (by decide +kernel)) (fun _ h9 => h9) rfl dX11_joinFamilies_19 ?_
      refine lv_iload hx hb dX11_joinFamilies_22 (lv_at hl 4 rfl) ?_
      obtain ⟨b4, h⟩ := gB_e h
      refine wr_iald hx hb hK hP (k := 40) (by decide) 0 ((tX_I Z 40 (by decide)) _ _ _) rfl b4 dX11_joinFamilies_24 ?_
      refine lv_iload_n hx hb dX11_joinFamilies_25 rfl (lv_at hl 1 rfl) ?_
      refine lv_icmp_eq (tgt := 40) hx hb dX11_joinFamilies_26 (by decide) (fun q5 => ?_) (fun q5 => ?_)
      · have h := if_p h q5
        exact kb_X11_joinFamilies_40 Z    C  hc9 σ l1 l2 l3 l4 h H locs hP hS ls (lv_sub hl [0, 1, 2, 3, 4] rfl)
      · have h := if_n h q5
        refine lv_aload_n hx hb dX11_joinFamilies_29 rfl (lv_at hl 0 rfl) ?_
        refine wr_get (C := RX11) (T := TX11) (N := 16) hx hb hts (in_X11_joinFamilies_X11) hown hK hP (k := 155) (by decide) ((tX_TuneSearch Z) _ _ _) rfl 14 (by decide) (hts (.fieldLink RX11 84 "TuneSearch" "familyHeads" "[I") (by decide +kernel)) (fun _ h9 => h9) rfl dX11_joinFamilies_30 ?_
        refine lv_iload hx hb dX11_joinFamilies_33 (lv_at hl 4 rfl) ?_
        obtain ⟨b6, h⟩ := gB_e h
        refine wr_iald hx hb hK hP (k := 40) (by decide) 0 ((tX_I Z 40 (by decide)) _ _ _) rfl b6 dX11_joinFamilies_35 ?_
        refine lv_iload_n hx hb dX11_joinFamilies_36 rfl (lv_at hl 2 rfl) ?_
        refine lv_icmp_ne (tgt := 48) hx hb dX11_joinFamilies_37 (by decide) (fun q7 => ?_) (fun q7 => ?_)
        · have h := if_p h q7
          exact kb_X11_joinFamilies_48 Z    C  hc9 σ l1 l2 l3 l4 h H locs hP hS ls (lv_sub hl [0, 1, 2, 3, 4] rfl)
        · have h := if_n h (fun z => z q7)
          exact kb_X11_joinFamilies_40 Z    C  hc9 σ l1 l2 l3 l4 h H locs hP hS ls (lv_sub hl [0, 1, 2, 3, 4] rfl)
def m_X11_joinFamilies_0    (σ : SG) (p0 : Int32) (p1 : Int32) : Option (Unit × SG) :=
  lS (if p1 < p0 then p1 else p0) (fun v1 => m_X11_joinFamilies_9    FV σ p0 p1 v1 0)
set_option maxHeartbeats 4000000 in
set_option maxRecDepth 100000 in
theorem kb_X11_joinFamilies_0 {p : Program} {l : Launch} {e : Env} {s : State} {m : MethodId} {args : Array Value} {below : List Frame} {meth : Method} {c : Code} {E : EF} (Z : ZT)    (C : cy p s m args meth c cX11_joinFamilies none 5 RX11 wsX11_joinFamilies E (zD Z) vwCl 211 (za Z) (tysX Z)) {res : Unit × SG}   : ∀ (σ : SG) (p0 : Int32) (p1 : Int32) , m_X11_joinFamilies_0    σ p0 p1 = some res → ∀ (H : Heap) (locs : List Loc), ws_P (zD Z) vwCl 211 (za Z) (tX Z) σ H → va_S (ws_A 211 (za Z)) s.heap H locs → ∀ (ls : Array Slot), lv_has ls 5 [(0, .ref (za Z 155)), (1, .int p0), (2, .int p1)] → W p l e rm_X11_joinFamilies s m args below meth c H locs 0 0 (MQ below (xQv E (zD Z) vwCl 211 (za Z) (tX Z) (tysX Z) res) args s 0 0 (ws_A 211 (za Z))) (F0 m 0 ls []) := by
  have C0 := C
  obtain ⟨hx, hb, hr, hlocks, hml, hown, hts, hE, hJ, hK⟩ := C0
  intro σ p0 p1  h H locs hP hS ls hl
  unfold m_X11_joinFamilies_0 at h
  refine lv_iload_n hx hb dX11_joinFamilies_0 rfl (lv_at hl 1 rfl) ?_
  refine lv_iload_n hx hb dX11_joinFamilies_1 rfl (lv_at hl 2 rfl) ?_
  refine va_mmin hx hb (by rw [hml]; exact hl.1.symm) hown (hts (.methodLink RX11 222 Lib.Math.min.name) (by decide +kernel)) (hts (.static Lib.Math.min.name) (by decide +kernel)) (hts (.initialized "java/lang/Math") (by decide +kernel)) (hts (.code Lib.Math.min.name Lib.Math.min.code 2 (some .int)) (by decide +kernel)) (Nat.le_of_ble_eq_true rfl) (Nat.le_of_ble_eq_true rfl) (Nat.le_of_ble_eq_true rfl) (Nat.le_of_ble_eq_true rfl) dX11_joinFamilies_2 ?_
  refine lv_topi (fun v1 e2 => ?_)
  have h := lS_u h e2
  refine lv_istore_n (lv' := [(3, .int v1), (0, .ref (za Z 155)), (1, .int p0), (2, .int p1)]) hx hb dX11_joinFamilies_5 rfl hl (by decide) rfl (fun ls hl => ?_)
  refine lv_iconst (v := 0) hx hb dX11_joinFamilies_6 (by decide) ?_
  refine lv_istore (lv' := [(4, .int 0), (3, .int v1), (0, .ref (za Z 155)), (1, .int p0), (2, .int p1)]) hx hb dX11_joinFamilies_7 hl (by decide) rfl (fun ls hl => ?_)
  exact kb_X11_joinFamilies_9 Z    C   FV σ p0 p1 v1 0 h H locs hP hS ls (lv_sub hl [2, 3, 4, 1, 0] rfl)
def m_X11_joinFamilies   (σ : SG) (p0 : Int32) (p1 : Int32) : Option (Unit × SG) := m_X11_joinFamilies_0   σ p0 p1
set_option maxHeartbeats 4000000 in
set_option maxRecDepth 100000 in
theorem k_X11_joinFamilies (l : Launch) {E : EF} (Z : ZT)    (σ : SG) (p0 : Int32) (p1 : Int32) {res : Unit × SG} (h : m_X11_joinFamilies   σ p0 p1 = some res) : Met l yX11_joinFamilies wsX11_joinFamilies rm_X11_joinFamilies (va_Pc [.ref (za Z 155), .int p0, .int p1] (wx E (zD Z) vwCl 211 (za Z) (tX Z) (tysX Z) σ)) (xQv E (zD Z) vwCl 211 (za Z) (tX Z) (tysX Z) res) 0 0 (ws_A 211 (za Z)) := by
  refine Met.ofW (cc := cX11_joinFamilies) (maxL := 5) (ret := none) (by decide) rfl ?_
  intro p e s m args below meth c s₁ B hml hv
  obtain ⟨rfl, hE, hJ, hP, hK⟩ := hv
  have hl := lv_entry ([.ref (za Z 155), .int p0, .int p1]) (n := 5) (Nat.le_of_ble_eq_true rfl)
  rw [lg_entry_eq]
  generalize (lg_sl ([.ref (za Z 155), .int p0, .int p1]) ++ List.replicate (5 - (lg_sl ([.ref (za Z 155), .int p0, .int p1])).length) Slot.unset).toArray = ls at hl ⊢
  exact kb_X11_joinFamilies_0 Z    ⟨B.exec, B.bytes, B.returns, B.notSynchronized, hml, findClass_of_methodNamed B.named, atoms_spec (ws := wsX11_joinFamilies) B.pre, hE, hJ, hK⟩ σ p0 p1 h s.heap [] hP va_S.rf ls hl
/-! TuneSearch.families(I)I -/
abbrev rm_X11_families : Room := { frames := 6, cells := 0, slots := 0, locals := 152 }
theorem in_X11_families_X11 : ∀ w ∈ wsX110, w ∈ wsX11_families := by decide +kernel
def m_X11_families_124   (c45 : SG → Int32 → Int32 → Int32 → Option (Int32 × SG)) (c58 : SG → Int32 → Int32 → Int32 → Int32 → Option (Int32 × SG)) (σ : SG) (l1 : Int32) (l2 : Int32) (l3 : Int32) (l4 : Int32) : Option (Int32 × SG) :=
  lS (l4 + 1) (fun v38 => c58 σ l1 l2 l3 v38)
set_option maxHeartbeats 4000000 in
set_option maxRecDepth 100000 in
theorem kb_X11_families_124 {p : Program} {l : Launch} {e : Env} {s : State} {m : MethodId} {args : Array Value} {below : List Frame} {meth : Method} {c : Code} {E : EF} (Z : ZT)    (C : cy p s m args meth c cX11_families (some .int) 5 RX11 wsX11_families E (zD Z) vwCl 211 (za Z) (tysX Z)) {res : Int32 × SG} {c45 : SG → Int32 → Int32 → Int32 → Option (Int32 × SG)} {c58 : SG → Int32 → Int32 → Int32 → Int32 → Option (Int32 × SG)} (hc45 : ∀ (σ : SG) (l1 : Int32) (l2 : Int32) (l3 : Int32) , c45 σ l1 l2 l3 = some res → ∀ (H : Heap) (locs : List Loc), ws_P (zD Z) vwCl 211 (za Z) (tX Z) σ H → va_S (ws_A 211 (za Z)) s.heap H locs → ∀ (ls : Array Slot), lv_has ls 5 [(0, .ref (za Z 155)), (1, .int l1), (2, .int l2), (3, .int l3)] → W p l e rm_X11_families s m args below meth c H locs 0 0 (MQ below (xQi E (zD Z) vwCl 211 (za Z) (tX Z) (tysX Z) res) args s 0 0 (ws_A 211 (za Z))) (F0 m 45 ls [])) (hc58 : ∀ (σ : SG) (l1 : Int32) (l2 : Int32) (l3 : Int32) (l4 : Int32) , c58 σ l1 l2 l3 l4 = some res → ∀ (H : Heap) (locs : List Loc), ws_P (zD Z) vwCl 211 (za Z) (tX Z) σ H → va_S (ws_A 211 (za Z)) s.heap H locs → ∀ (ls : Array Slot), lv_has ls 5 [(0, .ref (za Z 155)), (1, .int l1), (2, .int l2), (3, .int l3), (4, .int l4)] → W p l e rm_X11_families s m args below meth c H locs 0 0 (MQ below (xQi E (zD Z) vwCl 211 (za Z) (tX Z) (tysX Z) res) args s 0 0 (ws_A 211 (za Z))) (F0 m 58 ls [])) : ∀ (σ : SG) (l1 : Int32) (l2 : Int32) (l3 : Int32) (l4 : Int32) , m_X11_families_124   c45 c58 σ l1 l2 l3 l4 = some res → ∀ (H : Heap) (locs : List Loc), ws_P (zD Z) vwCl 211 (za Z) (tX Z) σ H → va_S (ws_A 211 (za Z)) s.heap H locs → ∀ (ls : Array Slot), lv_has ls 5 [(0, .ref (za Z 155)), (1, .int l1), (2, .int l2), (3, .int l3), (4, .int l4)] → W p l e rm_X11_families s m args below meth c H locs 0 0 (MQ below (xQi E (zD Z) vwCl 211 (za Z) (tX Z) (tysX Z) res) args s 0 0 (ws_A 211 (za Z))) (F0 m 124 ls []) := by
  have C0 := C
  obtain ⟨hx, hb, hr, hlocks, hml, hown, hts, hE, hJ, hK⟩ := C0
  intro σ l1 l2 l3 l4  h H locs hP hS ls hl
  unfold m_X11_families_124 at h
  obtain ⟨v38, e39, h⟩ := lS_e h
  refine lv_iinc (v := v38) (lv' := [(4, .int v38), (0, .ref (za Z 155)), (1, .int l1), (2, .int l2), (3, .int l3)]) hx hb dX11_families_124 hl (k := 4) rfl (by rw [e39]; rfl) (by decide) rfl (fun ls hl => ?_)
  refine lv_goto (tgt := 58) hx hb dX11_families_127 (by decide) ?_
  exact hc58 σ l1 l2 l3 v38 h H locs hP hS ls (lv_sub hl [1, 2, 3, 4, 0] rfl)
def m_X11_families_58_s   (c45 : SG → Int32 → Int32 → Int32 → Option (Int32 × SG)) (c58 : SG → Int32 → Int32 → Int32 → Int32 → Option (Int32 × SG)) (σ : SG) (l1 : Int32) (l2 : Int32) (l3 : Int32) (l4 : Int32) : Option (Int32 × SG) :=
  if (σ.1 155 1) ≤ l4 then (lS (l3 + 1) (fun v16 => c45 σ l1 l2 v16)) else (gB (inB l3 8) (gB (inB l4 8) (if (σ.1 40 l3.toNatClampNeg) = (σ.1 40 l4.toNatClampNeg) then (m_X11_families_124   c45 c58 σ l1 l2 l3 l4) else (gB (inB l3 8) (gB (inB l4 8) (bi (m_X11_areNear l3.toNatClampNeg l4.toNatClampNeg σ l1) (fun v27 σ28 => if v27 = 0 then (m_X11_families_124   c45 c58 σ28 l1 l2 l3 l4) else (gB (inB l3 8) (gB (inB l4 8) (bi (m_X11_joinFamilies  σ28 (σ28.1 40 l3.toNatClampNeg) (σ28.1 40 l4.toNatClampNeg)) (fun v33 σ34 => lS (l2 + (-1)) (fun v36 => m_X11_families_124   c45 c58 σ34 l1 v36 l3 l4))))))))))))
def m_X11_families_58   (c45 : SG → Int32 → Int32 → Int32 → Option (Int32 × SG)) : Nat → SG → Int32 → Int32 → Int32 → Int32 → Option (Int32 × SG)
  | 0, _, _, _, _, _ => none
  | n + 1, σ, l1, l2, l3, l4 => m_X11_families_58_s   c45 (m_X11_families_58   c45 n) σ l1 l2 l3 l4
set_option maxHeartbeats 4000000 in
set_option maxRecDepth 100000 in
theorem kb_X11_families_58 {p : Program} {l : Launch} {e : Env} {s : State} {m : MethodId} {args : Array Value} {below : List Frame} {meth : Method} {c : Code} {E : EF} (Z : ZT)    (C : cy p s m args meth c cX11_families (some .int) 5 RX11 wsX11_families E (zD Z) vwCl 211 (za Z) (tysX Z)) {res : Int32 × SG} {c45 : SG → Int32 → Int32 → Int32 → Option (Int32 × SG)} (hc45 : ∀ (σ : SG) (l1 : Int32) (l2 : Int32) (l3 : Int32) , c45 σ l1 l2 l3 = some res → ∀ (H : Heap) (locs : List Loc), ws_P (zD Z) vwCl 211 (za Z) (tX Z) σ H → va_S (ws_A 211 (za Z)) s.heap H locs → ∀ (ls : Array Slot), lv_has ls 5 [(0, .ref (za Z 155)), (1, .int l1), (2, .int l2), (3, .int l3)] → W p l e rm_X11_families s m args below meth c H locs 0 0 (MQ below (xQi E (zD Z) vwCl 211 (za Z) (tX Z) (tysX Z) res) args s 0 0 (ws_A 211 (za Z))) (F0 m 45 ls [])) : ∀ (n : Nat) (σ : SG) (l1 : Int32) (l2 : Int32) (l3 : Int32) (l4 : Int32) , m_X11_families_58   c45 n σ l1 l2 l3 l4 = some res → ∀ (H : Heap) (locs : List Loc), ws_P (zD Z) vwCl 211 (za Z) (tX Z) σ H → va_S (ws_A 211 (za Z)) s.heap H locs → ∀ (ls : Array Slot), lv_has ls 5 [(0, .ref (za Z 155)), (1, .int l1), (2, .int l2), (3, .int l3), (4, .int l4)] → W p l e rm_X11_families s m args below meth c H locs 0 0 (MQ below (xQi E (zD Z) vwCl 211 (za Z) (tX Z) (tysX Z) res) args s 0 0 (ws_A 211 (za Z))) (F0 m 58 ls []) := by
  have C0 := C
  obtain ⟨hx, hb, hr, hlocks, hml, hown, hts, hE, hJ, hK⟩ := C0
  intro n
  induction n with
  | zero =>
    intro σ l1 l2 l3 l4  h
    cases h
  | succ n ih =>
    intro σ l1 l2 l3 l4  h H locs hP hS ls hl
    have hc58 : ∀ (σ : SG) (l1 : Int32) (l2 : Int32) (l3 : Int32) (l4 : Int32) , m_X11_families_58   c45 n σ l1 l2 l3 l4 = some res → ∀ (H : Heap) (locs : List Loc), ws_P (zD Z) vwCl 211 (za Z) (tX Z) σ H → va_S (ws_A 211 (za Z)) s.heap H locs → ∀ (ls : Array Slot), lv_has ls 5 [(0, .ref (za Z 155)), (1, .int l1), (2, .int l2), (3, .int l3), (4, .int l4)] → W p l e rm_X11_families s m args below meth c H locs 0 0 (MQ below (xQi E (zD Z) vwCl 211 (za Z) (tX Z) (tysX Z) res) args s 0 0 (ws_A 211 (za Z))) (F0 m 58 ls []) := ih
    have h : m_X11_families_58_s   c45 (m_X11_families_58   c45 n) σ l1 l2 l3 l4 = some res := h
    unfold m_X11_families_58_s at h
    refine lv_iload hx hb dX11_families_58 (lv_at hl 4 rfl) ?_
    refine lv_aload_n hx hb dX11_families_60 rfl (lv_at hl 0 rfl) ?_
    refine wr_get (C := RX11) (T := TX11) (N := 16) hx hb hts (in_X11_families_X11) hown hK hP (k := 155) (by decide) ((tX_TuneSearch Z) _ _ _) rfl 1 (by decide) (hts (.fieldLink RX11 87 "TuneSearch" "tuneCount" "I") (by decide +kernel)) (fun _ h9 => h9) rfl dX11_families_61 ?_
    refine lv_icmp_ge (tgt := 130) hx hb dX11_families_64 (by decide) (fun q15 => ?_) (fun q15 => ?_)
    · have h := if_p h q15
      obtain ⟨v16, e17, h⟩ := lS_e h
      refine lv_iinc (v := v16) (lv' := [(3, .int v16), (0, .ref (za Z 155)), (1, .int l1), (2, .int l2), (4, .int l4)]) hx hb dX11_families_130 hl (k := 3) rfl (by rw [e17]; rfl) (by decide) rfl (fun ls hl => ?_)
      refine lv_goto (tgt := 45) hx hb dX11_families_133 (by decide) ?_
      exact hc45 σ l1 l2 v16 h H locs hP hS ls (lv_sub hl [1, 2, 3, 0] rfl)
    · have h := if_n h q15
      refine lv_aload_n hx hb dX11_families_67 rfl (lv_at hl 0 rfl) ?_
      refine wr_get (C := RX11) (T := TX11) (N := 16) hx hb hts (in_X11_families_X11) hown hK hP (k := 155) (by decide) ((tX_TuneSearch Z) _ _ _) rfl 14 (by decide) (hts (.fieldLink RX11 84 "TuneSearch" "familyHeads" "[I") (by decide +kernel)) (fun _ h9 => h9) rfl dX11_families_68 ?_
      refine lv_iload_n hx hb dX11_families_71 rfl (lv_at hl 3 rfl) ?_
      obtain ⟨b18, h⟩ := gB_e h
      refine wr_iald hx hb hK hP (k := 40) (by decide) 0 ((tX_I Z 40 (by decide)) _ _ _) rfl b18 dX11_families_72 ?_
      refine lv_aload_n hx hb dX11_families_73 rfl (lv_at hl 0 rfl) ?_
      refine wr_get (C := RX11) (T := TX11) (N := 16) hx hb hts (in_X11_families_X11) hown hK hP (k := 155) (by decide) ((tX_TuneSearch Z) _ _ _) rfl 14 (by decide) (hts (.fieldLink RX11 84 "TuneSearch" "familyHeads" "[I") (by decide +kernel)) (fun _ h9 => h9) rfl dX11_families_74 ?_
      refine lv_iload hx hb dX11_families_77 (lv_at hl 4 rfl) ?_
      obtain ⟨b19, h⟩ := gB_e h
      refine wr_iald hx hb hK hP (k := 40) (by decide) 0 ((tX_I Z 40 (by decide)) _ _ _) rfl b19 dX11_families_79 ?_
      refine lv_icmp_eq (tgt := 124) hx hb dX11_families_80 (by decide) (fun q20 => ?_) (fun q20 => ?_)
      · have h := if_p h q20
        exact kb_X11_families_124 Z    C  hc45 hc58 σ l1 l2 l3 l4 h H locs hP hS ls (lv_sub hl [0, 1, 2, 3, 4] rfl)
      · have h := if_n h q20
        refine lv_aload_n hx hb dX11_families_83 rfl (lv_at hl 0 rfl) ?_
        refine lv_aload_n hx hb dX11_families_84 rfl (lv_at hl 0 rfl) ?_
        refine wr_get (C := RX11) (T := TX11) (N := 16) hx hb hts (in_X11_families_X11) hown hK hP (k := 155) (by decide) ((tX_TuneSearch Z) _ _ _) rfl 0 (by decide) (hts (.fieldLink RX11 11 "TuneSearch" "tunes" "[LTuneSearch$NoteRow;") (by decide +kernel)) (fun _ h9 => h9) rfl dX11_families_85 ?_
        refine lv_iload_n hx hb dX11_families_88 rfl (lv_at hl 3 rfl) ?_
        obtain ⟨b21, h⟩ := gB_e h
        have hi22 := inB_lt b21
        have hi23 : l3.toNatClampNeg < 9 := Nat.lt_of_lt_of_le hi22 (by decide)
        refine wr_aald hx hb hK hP (k := 148) (by decide) 3 rfl ((tX_tunes Z) _ _ _) rfl b21 (row_at hi22) dX11_families_89 ?_
        refine lv_aload_n hx hb dX11_families_90 rfl (lv_at hl 0 rfl) ?_
        refine wr_get (C := RX11) (T := TX11) (N := 16) hx hb hts (in_X11_families_X11) hown hK hP (k := 155) (by decide) ((tX_TuneSearch Z) _ _ _) rfl 0 (by decide) (hts (.fieldLink RX11 11 "TuneSearch" "tunes" "[LTuneSearch$NoteRow;") (by decide +kernel)) (fun _ h9 => h9) rfl dX11_families_91 ?_
        refine lv_iload hx hb dX11_families_94 (lv_at hl 4 rfl) ?_
        obtain ⟨b24, h⟩ := gB_e h
        have hi25 := inB_lt b24
        have hi26 : l4.toNatClampNeg < 9 := Nat.lt_of_lt_of_le hi25 (by decide)
        refine wr_aald hx hb hK hP (k := 148) (by decide) 3 rfl ((tX_tunes Z) _ _ _) rfl b24 (row_at hi25) dX11_families_96 ?_
        refine lv_iload_n hx hb dX11_families_97 rfl (lv_at hl 1 rfl) ?_
        obtain ⟨v27, σ28, hm29, h⟩ := bi_e h
        refine xr_calli (res := (v27, σ28)) (va_runV (As := [.ref (za Z (156 + l3.toNatClampNeg)), .ref (za Z (156 + l4.toNatClampNeg)), .int l1]) (rest := []) ⟨hx, hb, hml, hown, hts⟩ (k_X11_areNear l Z l3.toNatClampNeg l4.toNatClampNeg hi23 hi26 σ l1 hm29) (cwV 3 hts gX11_families_X11_areNear rfl rfl rfl (by decide +kernel) ⟨Nat.le_of_ble_eq_true rfl, Nat.le_of_ble_eq_true rfl⟩) ⟨wx_blind, wr_recv hK hP (k := 155) (by decide) ((tX_TuneSearch Z) _ _ _) rfl, fun U hU hW => ⟨rfl, wx_at hE hJ hP hK hS hU hW⟩⟩ rfl rfl hl.1 rfl (lv_room (Nat.le_of_ble_eq_true rfl)) dX11_families_98 ⟨Nat.le_of_ble_eq_true rfl, Nat.le_of_ble_eq_true rfl⟩) hS (fun H locs hP hS => ?_)
        have hP : ws_P (zD Z) vwCl 211 (za Z) (tX Z) σ28 H := hP
        refine lv_if_eq (tgt := 124) hx hb dX11_families_101 (by decide) (fun q30 => ?_) (fun q30 => ?_)
        · have h := if_p h q30
          exact kb_X11_families_124 Z    C  hc45 hc58 σ28 l1 l2 l3 l4 h H locs hP hS ls (lv_sub hl [0, 1, 2, 3, 4] rfl)
        · have h := if_n h q30
          refine lv_aload_n hx hb dX11_families_104 rfl (lv_at hl 0 rfl) ?_
          refine lv_aload_n hx hb dX11_families_105 rfl (lv_at hl 0 rfl) ?_
          refine wr_get (C := RX11) (T := TX11) (N := 16) hx hb hts (in_X11_families_X11) hown hK hP (k := 155) (by decide) ((tX_TuneSearch Z) _ _ _) rfl 14 (by decide) (hts (.fieldLink RX11 84 "TuneSearch" "familyHeads" "[I") (by decide +kernel)) (fun _ h9 => h9) rfl dX11_families_106 ?_
          refine lv_iload_n hx hb dX11_families_109 rfl (lv_at hl 3 rfl) ?_
          obtain ⟨b31, h⟩ := gB_e h
          refine wr_iald hx hb hK hP (k := 40) (by decide) 0 ((tX_I Z 40 (by decide)) _ _ _) rfl b31 dX11_families_110 ?_
          refine lv_aload_n hx hb dX11_families_111 rfl (lv_at hl 0 rfl) ?_
          refine wr_get (C := RX11) (T := TX11) (N := 16) hx hb hts (in_X11_families_X11) hown hK hP (k := 155) (by decide) ((tX_TuneSearch Z) _ _ _) rfl 14 (by decide) (hts (.fieldLink RX11 84 "TuneSearch" "familyHeads" "[I") (by decide +kernel)) (fun _ h9 => h9) rfl dX11_families_112 ?_
          refine lv_iload hx hb dX11_families_115 (lv_at hl 4 rfl) ?_
          obtain ⟨b32, h⟩ := gB_e h
          refine wr_iald hx hb hK hP (k := 40) (by decide) 0 ((tX_I Z 40 (by decide)) _ _ _) rfl b32 dX11_families_117 ?_
          obtain ⟨v33, σ34, hm35, h⟩ := bi_e h
          refine xr_callv (res := (v33, σ34)) (va_runV (As := [.int (σ28.1 40 l3.toNatClampNeg), .int (σ28.1 40 l4.toNatClampNeg)]) (rest := []) ⟨hx, hb, hml, hown, hts⟩ (k_X11_joinFamilies l Z   σ28 (σ28.1 40 l3.toNatClampNeg) (σ28.1 40 l4.toNatClampNeg) hm35) (cwV 2 hts gX11_families_X11_joinFamilies rfl rfl rfl (by decide +kernel) ⟨Nat.le_of_ble_eq_true rfl, Nat.le_of_ble_eq_true rfl⟩) ⟨wx_blind, wr_recv hK hP (k := 155) (by decide) ((tX_TuneSearch Z) _ _ _) rfl, fun U hU hW => ⟨rfl, wx_at hE hJ hP hK hS hU hW⟩⟩ rfl rfl hl.1 rfl (lv_room (Nat.le_of_ble_eq_true rfl)) dX11_families_118 ⟨Nat.le_of_ble_eq_true rfl, Nat.le_of_ble_eq_true rfl⟩) hS (fun H locs hP hS => ?_)
          have hP : ws_P (zD Z) vwCl 211 (za Z) (tX Z) σ34 H := hP
          obtain ⟨v36, e37, h⟩ := lS_e h
          refine lv_iinc (v := v36) (lv' := [(2, .int v36), (0, .ref (za Z 155)), (1, .int l1), (3, .int l3), (4, .int l4)]) hx hb dX11_families_121 hl (k := 2) rfl (by rw [e37]; rfl) (by decide) rfl (fun ls hl => ?_)
          exact kb_X11_families_124 Z    C  hc45 hc58 σ34 l1 v36 l3 l4 h H locs hP hS ls (lv_sub hl [1, 2, 0, 3, 4] rfl)
def m_X11_families_45_s    (c45 : SG → Int32 → Int32 → Int32 → Option (Int32 × SG)) (σ : SG) (l1 : Int32) (l2 : Int32) (l3 : Int32) : Option (Int32 × SG) :=
  if (σ.1 155 1) ≤ l3 then (some (l2, σ)) else (lS (l3 + 1) (fun v13 => m_X11_families_58   c45 FV σ l1 l2 l3 v13))
def m_X11_families_45    : Nat → SG → Int32 → Int32 → Int32 → Option (Int32 × SG)
  | 0, _, _, _, _ => none
  | n + 1, σ, l1, l2, l3 => m_X11_families_45_s    (m_X11_families_45    n) σ l1 l2 l3
set_option maxHeartbeats 4000000 in
set_option maxRecDepth 100000 in
theorem kb_X11_families_45 {p : Program} {l : Launch} {e : Env} {s : State} {m : MethodId} {args : Array Value} {below : List Frame} {meth : Method} {c : Code} {E : EF} (Z : ZT)    (C : cy p s m args meth c cX11_families (some .int) 5 RX11 wsX11_families E (zD Z) vwCl 211 (za Z) (tysX Z)) {res : Int32 × SG}   : ∀ (n : Nat) (σ : SG) (l1 : Int32) (l2 : Int32) (l3 : Int32) , m_X11_families_45    n σ l1 l2 l3 = some res → ∀ (H : Heap) (locs : List Loc), ws_P (zD Z) vwCl 211 (za Z) (tX Z) σ H → va_S (ws_A 211 (za Z)) s.heap H locs → ∀ (ls : Array Slot), lv_has ls 5 [(0, .ref (za Z 155)), (1, .int l1), (2, .int l2), (3, .int l3)] → W p l e rm_X11_families s m args below meth c H locs 0 0 (MQ below (xQi E (zD Z) vwCl 211 (za Z) (tX Z) (tysX Z) res) args s 0 0 (ws_A 211 (za Z))) (F0 m 45 ls []) := by
  have C0 := C
  obtain ⟨hx, hb, hr, hlocks, hml, hown, hts, hE, hJ, hK⟩ := C0
  intro n
  induction n with
  | zero =>
    intro σ l1 l2 l3  h
    cases h
  | succ n ih =>
    intro σ l1 l2 l3  h H locs hP hS ls hl
    have hc45 : ∀ (σ : SG) (l1 : Int32) (l2 : Int32) (l3 : Int32) , m_X11_families_45    n σ l1 l2 l3 = some res → ∀ (H : Heap) (locs : List Loc), ws_P (zD Z) vwCl 211 (za Z) (tX Z) σ H → va_S (ws_A 211 (za Z)) s.heap H locs → ∀ (ls : Array Slot), lv_has ls 5 [(0, .ref (za Z 155)), (1, .int l1), (2, .int l2), (3, .int l3)] → W p l e rm_X11_families s m args below meth c H locs 0 0 (MQ below (xQi E (zD Z) vwCl 211 (za Z) (tX Z) (tysX Z) res) args s 0 0 (ws_A 211 (za Z))) (F0 m 45 ls []) := ih
    have h : m_X11_families_45_s    (m_X11_families_45    n) σ l1 l2 l3 = some res := h
    unfold m_X11_families_45_s at h
    refine lv_iload_n hx hb dX11_families_45 rfl (lv_at hl 3 rfl) ?_
    refine lv_aload_n hx hb dX11_families_46 rfl (lv_at hl 0 rfl) ?_
    refine wr_get (C := RX11) (T := TX11) (N := 16) hx hb hts (in_X11_families_X11) hown hK hP (k := 155) (by decide) ((tX_TuneSearch Z) _ _ _) rfl 1 (by decide) (hts (.fieldLink RX11 87 "TuneSearch" "tuneCount" "I") (by decide +kernel)) (fun _ h9 => h9) rfl dX11_families_47 ?_
    refine lv_icmp_ge (tgt := 136) hx hb dX11_families_50 (by decide) (fun q12 => ?_) (fun q12 => ?_)
    · have h := if_p h q12
      refine lv_iload_n hx hb dX11_families_136 rfl (lv_at hl 2 rfl) ?_
      exact xr_iret hx hb hr hlocks hE hJ hK hP hS h dX11_families_137
    · have h := if_n h q12
      refine lv_iload_n hx hb dX11_families_53 rfl (lv_at hl 3 rfl) ?_
      refine lv_iconst (v := 1) hx hb dX11_families_54 (by decide) ?_
      refine lv_iadd hx hb dX11_families_55 ?_
      refine lv_topi (fun v13 e14 => ?_)
      have h := lS_u h e14
      refine lv_istore (lv' := [(4, .int v13), (0, .ref (za Z 155)), (1, .int l1), (2, .int l2), (3, .int l3)]) hx hb dX11_families_56 hl (by decide) rfl (fun ls hl => ?_)
      exact kb_X11_families_58 Z    C  hc45 FV σ l1 l2 l3 v13 h H locs hP hS ls (lv_sub hl [1, 2, 3, 4, 0] rfl)
def m_X11_families_22_s    (c22 : SG → Int32 → Int32 → Int32 → Option (Int32 × SG)) (σ : SG) (l1 : Int32) (l2 : Int32) (l3 : Int32) : Option (Int32 × SG) :=
  if (σ.1 155 1) ≤ l3 then (m_X11_families_45    FV σ l1 l2 0) else (gB (inB l3 8) (lS (sI σ 40 l3.toNatClampNeg l3) (fun σ8 => lS (l3 + 1) (fun v10 => c22 σ8 l1 l2 v10))))
def m_X11_families_22    : Nat → SG → Int32 → Int32 → Int32 → Option (Int32 × SG)
  | 0, _, _, _, _ => none
  | n + 1, σ, l1, l2, l3 => m_X11_families_22_s    (m_X11_families_22    n) σ l1 l2 l3
set_option maxHeartbeats 4000000 in
set_option maxRecDepth 100000 in
theorem kb_X11_families_22 {p : Program} {l : Launch} {e : Env} {s : State} {m : MethodId} {args : Array Value} {below : List Frame} {meth : Method} {c : Code} {E : EF} (Z : ZT)    (C : cy p s m args meth c cX11_families (some .int) 5 RX11 wsX11_families E (zD Z) vwCl 211 (za Z) (tysX Z)) {res : Int32 × SG}   : ∀ (n : Nat) (σ : SG) (l1 : Int32) (l2 : Int32) (l3 : Int32) , m_X11_families_22    n σ l1 l2 l3 = some res → ∀ (H : Heap) (locs : List Loc), ws_P (zD Z) vwCl 211 (za Z) (tX Z) σ H → va_S (ws_A 211 (za Z)) s.heap H locs → ∀ (ls : Array Slot), lv_has ls 5 [(0, .ref (za Z 155)), (1, .int l1), (2, .int l2), (3, .int l3)] → W p l e rm_X11_families s m args below meth c H locs 0 0 (MQ below (xQi E (zD Z) vwCl 211 (za Z) (tX Z) (tysX Z) res) args s 0 0 (ws_A 211 (za Z))) (F0 m 22 ls []) := by
  have C0 := C
  obtain ⟨hx, hb, hr, hlocks, hml, hown, hts, hE, hJ, hK⟩ := C0
  intro n
  induction n with
  | zero =>
    intro σ l1 l2 l3  h
    cases h
  | succ n ih =>
    intro σ l1 l2 l3  h H locs hP hS ls hl
    have hc22 : ∀ (σ : SG) (l1 : Int32) (l2 : Int32) (l3 : Int32) , m_X11_families_22    n σ l1 l2 l3 = some res → ∀ (H : Heap) (locs : List Loc), ws_P (zD Z) vwCl 211 (za Z) (tX Z) σ H → va_S (ws_A 211 (za Z)) s.heap H locs → ∀ (ls : Array Slot), lv_has ls 5 [(0, .ref (za Z 155)), (1, .int l1), (2, .int l2), (3, .int l3)] → W p l e rm_X11_families s m args below meth c H locs 0 0 (MQ below (xQi E (zD Z) vwCl 211 (za Z) (tX Z) (tysX Z) res) args s 0 0 (ws_A 211 (za Z))) (F0 m 22 ls []) := ih
    have h : m_X11_families_22_s    (m_X11_families_22    n) σ l1 l2 l3 = some res := h
    unfold m_X11_families_22_s at h
    refine lv_iload_n hx hb dX11_families_22 rfl (lv_at hl 3 rfl) ?_
    refine lv_aload_n hx hb dX11_families_23 rfl (lv_at hl 0 rfl) ?_
    refine wr_get (C := RX11) (T := TX11) (N := 16) hx hb hts (in_X11_families_X11) hown hK hP (k := 155) (by decide) ((tX_TuneSearch Z) _ _ _) rfl 1 (by decide) (hts (.fieldLink RX11 87 "TuneSearch" "tuneCount" "I") (by decide +kernel)) (fun _ h9 => h9) rfl dX11_families_24 ?_
    refine lv_icmp_ge (tgt := 43) hx hb dX11_families_27 (by decide) (fun q6 => ?_) (fun q6 => ?_)
    · have h := if_p h q6
      refine lv_iconst (v := 0) hx hb dX11_families_43 (by decide) ?_
      refine lv_istore_n (lv' := [(3, .int 0), (0, .ref (za Z 155)), (1, .int l1), (2, .int l2)]) hx hb dX11_families_44 rfl hl (by decide) rfl (fun ls hl => ?_)
      exact kb_X11_families_45 Z    C   FV σ l1 l2 0 h H locs hP hS ls (lv_sub hl [1, 2, 3, 0] rfl)
    · have h := if_n h q6
      refine lv_aload_n hx hb dX11_families_30 rfl (lv_at hl 0 rfl) ?_
      refine wr_get (C := RX11) (T := TX11) (N := 16) hx hb hts (in_X11_families_X11) hown hK hP (k := 155) (by decide) ((tX_TuneSearch Z) _ _ _) rfl 14 (by decide) (hts (.fieldLink RX11 84 "TuneSearch" "familyHeads" "[I") (by decide +kernel)) (fun _ h9 => h9) rfl dX11_families_31 ?_
      refine lv_iload_n hx hb dX11_families_34 rfl (lv_at hl 3 rfl) ?_
      refine lv_iload_n hx hb dX11_families_35 rfl (lv_at hl 3 rfl) ?_
      obtain ⟨b7, h⟩ := gB_e h
      refine wr_iast hx hb hK hP hJ hS (k := 40) (by decide) 0 (tX_I Z 40 (by decide)) rfl b7 dX11_families_36 (fun H locs hP hS => ?_)
      obtain ⟨σ8, e9, h⟩ := lS_e h
      rw [← e9] at hP
      obtain ⟨v10, e11, h⟩ := lS_e h
      refine lv_iinc (v := v10) (lv' := [(3, .int v10), (0, .ref (za Z 155)), (1, .int l1), (2, .int l2)]) hx hb dX11_families_37 hl (k := 3) rfl (by rw [e11]; rfl) (by decide) rfl (fun ls hl => ?_)
      refine lv_goto (tgt := 22) hx hb dX11_families_40 (by decide) ?_
      exact hc22 σ8 l1 l2 v10 h H locs hP hS ls (lv_sub hl [1, 2, 3, 0] rfl)
def m_X11_families_0    (σ : SG) (p0 : Int32) : Option (Int32 × SG) :=
  if 0 ≤ p0 then (lS (sI σ 155 15 (σ.1 155 1)) (fun σ2 => lS (σ2.1 155 1) (fun v4 => m_X11_families_22    FV σ2 p0 v4 0))) else (some ((-2), σ))
set_option maxHeartbeats 4000000 in
set_option maxRecDepth 100000 in
theorem kb_X11_families_0 {p : Program} {l : Launch} {e : Env} {s : State} {m : MethodId} {args : Array Value} {below : List Frame} {meth : Method} {c : Code} {E : EF} (Z : ZT)    (C : cy p s m args meth c cX11_families (some .int) 5 RX11 wsX11_families E (zD Z) vwCl 211 (za Z) (tysX Z)) {res : Int32 × SG}   : ∀ (σ : SG) (p0 : Int32) , m_X11_families_0    σ p0 = some res → ∀ (H : Heap) (locs : List Loc), ws_P (zD Z) vwCl 211 (za Z) (tX Z) σ H → va_S (ws_A 211 (za Z)) s.heap H locs → ∀ (ls : Array Slot), lv_has ls 5 [(0, .ref (za Z 155)), (1, .int p0)] → W p l e rm_X11_families s m args below meth c H locs 0 0 (MQ below (xQi E (zD Z) vwCl 211 (za Z) (tX Z) (tysX Z) res) args s 0 0 (ws_A 211 (za Z))) (F0 m 0 ls []) := by
  have C0 := C
  obtain ⟨hx, hb, hr, hlocks, hml, hown, hts, hE, hJ, hK⟩ := C0
  intro σ p0  h H locs hP hS ls hl
  unfold m_X11_families_0 at h
  refine lv_iload_n hx hb dX11_families_0 rfl (lv_at hl 1 rfl) ?_
  refine lv_if_ge (tgt := 7) hx hb dX11_families_1 (by decide) (fun q1 => ?_) (fun q1 => ?_)
  · have h := if_p h q1
    refine lv_aload_n hx hb dX11_families_7 rfl (lv_at hl 0 rfl) ?_
    refine lv_aload_n hx hb dX11_families_8 rfl (lv_at hl 0 rfl) ?_
    refine wr_get (C := RX11) (T := TX11) (N := 16) hx hb hts (in_X11_families_X11) hown hK hP (k := 155) (by decide) ((tX_TuneSearch Z) _ _ _) rfl 1 (by decide) (hts (.fieldLink RX11 87 "TuneSearch" "tuneCount" "I") (by decide +kernel)) (fun _ h9 => h9) rfl dX11_families_9 ?_
    refine wr_put (C := RX11) (T := TX11) (N := 16) (σ' := sI σ 155 15 (σ.1 155 1)) (ty := .int) hx hb hts (in_X11_families_X11) tyX11 tyX11_ok nmX11 hown hK hP hJ hS (k := 155) (by decide) ((tX_TuneSearch Z) _ _ _) rfl 15 (by decide) (hts (.fieldLink RX11 178 "TuneSearch" "familyTunes" "I") (by decide +kernel)) (fun _ h9 => h9) rfl (by decide +kernel) rfl rfl (Nat.le_of_ble_eq_true rfl) (ws_pI (tX_TuneSearch Z) rfl) dX11_families_12 (fun H locs hP hS => ?_)
    obtain ⟨σ2, e3, h⟩ := lS_e h
    rw [← e3] at hP
    refine lv_aload_n hx hb dX11_families_15 rfl (lv_at hl 0 rfl) ?_
    refine wr_get (C := RX11) (T := TX11) (N := 16) hx hb hts (in_X11_families_X11) hown hK hP (k := 155) (by decide) ((tX_TuneSearch Z) _ _ _) rfl 1 (by decide) (hts (.fieldLink RX11 87 "TuneSearch" "tuneCount" "I") (by decide +kernel)) (fun _ h9 => h9) rfl dX11_families_16 ?_
    refine lv_topi (fun v4 e5 => ?_)
    have h := lS_u h e5
    refine lv_istore_n (lv' := [(2, .int v4), (0, .ref (za Z 155)), (1, .int p0)]) hx hb dX11_families_19 rfl hl (by decide) rfl (fun ls hl => ?_)
    refine lv_iconst (v := 0) hx hb dX11_families_20 (by decide) ?_
    refine lv_istore_n (lv' := [(3, .int 0), (2, .int v4), (0, .ref (za Z 155)), (1, .int p0)]) hx hb dX11_families_21 rfl hl (by decide) rfl (fun ls hl => ?_)
    exact kb_X11_families_22 Z    C   FV σ2 p0 v4 0 h H locs hP hS ls (lv_sub hl [2, 3, 1, 0] rfl)
  · have h := if_n h q1
    refine lv_bipush (v := (-2)) hx hb dX11_families_4 (by decide) ?_
    exact xr_iret hx hb hr hlocks hE hJ hK hP hS h dX11_families_6
def m_X11_families   (σ : SG) (p0 : Int32) : Option (Int32 × SG) := m_X11_families_0   σ p0
set_option maxHeartbeats 4000000 in
set_option maxRecDepth 100000 in
theorem k_X11_families (l : Launch) {E : EF} (Z : ZT)    (σ : SG) (p0 : Int32) {res : Int32 × SG} (h : m_X11_families   σ p0 = some res) : Met l yX11_families wsX11_families rm_X11_families (va_Pc [.ref (za Z 155), .int p0] (wx E (zD Z) vwCl 211 (za Z) (tX Z) (tysX Z) σ)) (xQi E (zD Z) vwCl 211 (za Z) (tX Z) (tysX Z) res) 0 0 (ws_A 211 (za Z)) := by
  refine Met.ofW (cc := cX11_families) (maxL := 5) (ret := (some .int)) (by decide) rfl ?_
  intro p e s m args below meth c s₁ B hml hv
  obtain ⟨rfl, hE, hJ, hP, hK⟩ := hv
  have hl := lv_entry ([.ref (za Z 155), .int p0]) (n := 5) (Nat.le_of_ble_eq_true rfl)
  rw [lg_entry_eq]
  generalize (lg_sl ([.ref (za Z 155), .int p0]) ++ List.replicate (5 - (lg_sl ([.ref (za Z 155), .int p0])).length) Slot.unset).toArray = ls at hl ⊢
  exact kb_X11_families_0 Z    ⟨B.exec, B.bytes, B.returns, B.notSynchronized, hml, findClass_of_methodNamed B.named, atoms_spec (ws := wsX11_families) B.pre, hE, hJ, hK⟩ σ p0 h s.heap [] hP va_S.rf ls hl
/-! TuneSearch.family(I)I -/
abbrev rm_X11_family : Room := { frames := 1, cells := 0, slots := 0, locals := 21 }
theorem in_X11_family_X11 : ∀ w ∈ wsX110, w ∈ wsX11_family := by decide +kernel
def m_X11_family_0    (σ : SG) (p0 : Int32) : Option (Int32 × SG) :=
  bi (m_X11_isTune  σ p0) (fun v1 σ2 => if v1 = 0 then (some ((-1), σ2)) else (if p0 < (σ2.1 155 15) then (gB (inB p0 8) (some (σ2.1 40 p0.toNatClampNeg, σ2))) else (some ((-1), σ2))))
set_option maxHeartbeats 4000000 in
set_option maxRecDepth 100000 in
theorem kb_X11_family_0 {p : Program} {l : Launch} {e : Env} {s : State} {m : MethodId} {args : Array Value} {below : List Frame} {meth : Method} {c : Code} {E : EF} (Z : ZT)    (C : cy p s m args meth c cX11_family (some .int) 2 RX11 wsX11_family E (zD Z) vwCl 211 (za Z) (tysX Z)) {res : Int32 × SG}   : ∀ (σ : SG) (p0 : Int32) , m_X11_family_0    σ p0 = some res → ∀ (H : Heap) (locs : List Loc), ws_P (zD Z) vwCl 211 (za Z) (tX Z) σ H → va_S (ws_A 211 (za Z)) s.heap H locs → ∀ (ls : Array Slot), lv_has ls 2 [(0, .ref (za Z 155)), (1, .int p0)] → W p l e rm_X11_family s m args below meth c H locs 0 0 (MQ below (xQi E (zD Z) vwCl 211 (za Z) (tX Z) (tysX Z) res) args s 0 0 (ws_A 211 (za Z))) (F0 m 0 ls []) := by
  have C0 := C
  obtain ⟨hx, hb, hr, hlocks, hml, hown, hts, hE, hJ, hK⟩ := C0
  intro σ p0  h H locs hP hS ls hl
  unfold m_X11_family_0 at h
  refine lv_aload_n hx hb dX11_family_0 rfl (lv_at hl 0 rfl) ?_
  refine lv_iload_n hx hb dX11_family_1 rfl (lv_at hl 1 rfl) ?_
  obtain ⟨v1, σ2, hm3, h⟩ := bi_e h
  refine xr_calli (res := (v1, σ2)) (va_runV (As := [.int p0]) (rest := []) ⟨hx, hb, hml, hown, hts⟩ (k_X11_isTune l Z   σ p0 hm3) (cwV 1 hts gX11_family_X11_isTune rfl rfl rfl (by decide +kernel) ⟨Nat.le_of_ble_eq_true rfl, Nat.le_of_ble_eq_true rfl⟩) ⟨wx_blind, wr_recv hK hP (k := 155) (by decide) ((tX_TuneSearch Z) _ _ _) rfl, fun U hU hW => ⟨rfl, wx_at hE hJ hP hK hS hU hW⟩⟩ rfl rfl hl.1 rfl (lv_room (Nat.le_of_ble_eq_true rfl)) dX11_family_2 ⟨Nat.le_of_ble_eq_true rfl, Nat.le_of_ble_eq_true rfl⟩) hS (fun H locs hP hS => ?_)
  have hP : ws_P (zD Z) vwCl 211 (za Z) (tX Z) σ2 H := hP
  refine lv_if_eq (tgt := 16) hx hb dX11_family_5 (by decide) (fun q4 => ?_) (fun q4 => ?_)
  · have h := if_p h q4
    refine lv_iconst (v := (-1)) hx hb dX11_family_16 (by decide) ?_
    exact xr_iret hx hb hr hlocks hE hJ hK hP hS h dX11_family_17
  · have h := if_n h q4
    refine lv_iload_n hx hb dX11_family_8 rfl (lv_at hl 1 rfl) ?_
    refine lv_aload_n hx hb dX11_family_9 rfl (lv_at hl 0 rfl) ?_
    refine wr_get (C := RX11) (T := TX11) (N := 16) hx hb hts (in_X11_family_X11) hown hK hP (k := 155) (by decide) ((tX_TuneSearch Z) _ _ _) rfl 15 (by decide) (hts (.fieldLink RX11 178 "TuneSearch" "familyTunes" "I") (by decide +kernel)) (fun _ h9 => h9) rfl dX11_family_10 ?_
    refine lv_icmp_lt (tgt := 18) hx hb dX11_family_13 (by decide) (fun q5 => ?_) (fun q5 => ?_)
    · have h := if_p h q5
      refine lv_aload_n hx hb dX11_family_18 rfl (lv_at hl 0 rfl) ?_
      refine wr_get (C := RX11) (T := TX11) (N := 16) hx hb hts (in_X11_family_X11) hown hK hP (k := 155) (by decide) ((tX_TuneSearch Z) _ _ _) rfl 14 (by decide) (hts (.fieldLink RX11 84 "TuneSearch" "familyHeads" "[I") (by decide +kernel)) (fun _ h9 => h9) rfl dX11_family_19 ?_
      refine lv_iload_n hx hb dX11_family_22 rfl (lv_at hl 1 rfl) ?_
      obtain ⟨b6, h⟩ := gB_e h
      refine wr_iald hx hb hK hP (k := 40) (by decide) 0 ((tX_I Z 40 (by decide)) _ _ _) rfl b6 dX11_family_23 ?_
      exact xr_iret hx hb hr hlocks hE hJ hK hP hS h dX11_family_24
    · have h := if_n h q5
      refine lv_iconst (v := (-1)) hx hb dX11_family_16 (by decide) ?_
      exact xr_iret hx hb hr hlocks hE hJ hK hP hS h dX11_family_17
def m_X11_family   (σ : SG) (p0 : Int32) : Option (Int32 × SG) := m_X11_family_0   σ p0
set_option maxHeartbeats 4000000 in
set_option maxRecDepth 100000 in
theorem k_X11_family (l : Launch) {E : EF} (Z : ZT)    (σ : SG) (p0 : Int32) {res : Int32 × SG} (h : m_X11_family   σ p0 = some res) : Met l yX11_family wsX11_family rm_X11_family (va_Pc [.ref (za Z 155), .int p0] (wx E (zD Z) vwCl 211 (za Z) (tX Z) (tysX Z) σ)) (xQi E (zD Z) vwCl 211 (za Z) (tX Z) (tysX Z) res) 0 0 (ws_A 211 (za Z)) := by
  refine Met.ofW (cc := cX11_family) (maxL := 2) (ret := (some .int)) (by decide) rfl ?_
  intro p e s m args below meth c s₁ B hml hv
  obtain ⟨rfl, hE, hJ, hP, hK⟩ := hv
  have hl := lv_entry ([.ref (za Z 155), .int p0]) (n := 2) (Nat.le_of_ble_eq_true rfl)
  rw [lg_entry_eq]
  generalize (lg_sl ([.ref (za Z 155), .int p0]) ++ List.replicate (2 - (lg_sl ([.ref (za Z 155), .int p0])).length) Slot.unset).toArray = ls at hl ⊢
  exact kb_X11_family_0 Z    ⟨B.exec, B.bytes, B.returns, B.notSynchronized, hml, findClass_of_methodNamed B.named, atoms_spec (ws := wsX11_family) B.pre, hE, hJ, hK⟩ σ p0 h s.heap [] hP va_S.rf ls hl
/-! TuneSearch.countNotes()I -/
abbrev rm_X11_countNotes : Room := { frames := 0, cells := 0, slots := 0, locals := 0 }
theorem in_X11_countNotes_X4 : ∀ w ∈ wsX40, w ∈ wsX11_countNotes := by decide +kernel
theorem in_X11_countNotes_X11 : ∀ w ∈ wsX110, w ∈ wsX11_countNotes := by decide +kernel
def m_X11_countNotes_4_s    (c4 : SG → Int32 → Int32 → Option (Int32 × SG)) (σ : SG) (l1 : Int32) (l2 : Int32) : Option (Int32 × SG) :=
  if (σ.1 155 1) ≤ l2 then (some (l1, σ)) else (gB (inB l2 8) (lS (l1 + (σ.1 (156 + l2.toNatClampNeg) 2)) (fun v5 => lS (l2 + 1) (fun v7 => c4 σ v5 v7))))
def m_X11_countNotes_4    : Nat → SG → Int32 → Int32 → Option (Int32 × SG)
  | 0, _, _, _ => none
  | n + 1, σ, l1, l2 => m_X11_countNotes_4_s    (m_X11_countNotes_4    n) σ l1 l2
set_option maxHeartbeats 4000000 in
set_option maxRecDepth 100000 in
theorem kb_X11_countNotes_4 {p : Program} {l : Launch} {e : Env} {s : State} {m : MethodId} {args : Array Value} {below : List Frame} {meth : Method} {c : Code} {E : EF} (Z : ZT)    (C : cy p s m args meth c cX11_countNotes (some .int) 3 RX11 wsX11_countNotes E (zD Z) vwCl 211 (za Z) (tysX Z)) {res : Int32 × SG}   : ∀ (n : Nat) (σ : SG) (l1 : Int32) (l2 : Int32) , m_X11_countNotes_4    n σ l1 l2 = some res → ∀ (H : Heap) (locs : List Loc), ws_P (zD Z) vwCl 211 (za Z) (tX Z) σ H → va_S (ws_A 211 (za Z)) s.heap H locs → ∀ (ls : Array Slot), lv_has ls 3 [(0, .ref (za Z 155)), (1, .int l1), (2, .int l2)] → W p l e rm_X11_countNotes s m args below meth c H locs 0 0 (MQ below (xQi E (zD Z) vwCl 211 (za Z) (tX Z) (tysX Z) res) args s 0 0 (ws_A 211 (za Z))) (F0 m 4 ls []) := by
  have C0 := C
  obtain ⟨hx, hb, hr, hlocks, hml, hown, hts, hE, hJ, hK⟩ := C0
  intro n
  induction n with
  | zero =>
    intro σ l1 l2  h
    cases h
  | succ n ih =>
    intro σ l1 l2  h H locs hP hS ls hl
    have hc4 : ∀ (σ : SG) (l1 : Int32) (l2 : Int32) , m_X11_countNotes_4    n σ l1 l2 = some res → ∀ (H : Heap) (locs : List Loc), ws_P (zD Z) vwCl 211 (za Z) (tX Z) σ H → va_S (ws_A 211 (za Z)) s.heap H locs → ∀ (ls : Array Slot), lv_has ls 3 [(0, .ref (za Z 155)), (1, .int l1), (2, .int l2)] → W p l e rm_X11_countNotes s m args below meth c H locs 0 0 (MQ below (xQi E (zD Z) vwCl 211 (za Z) (tX Z) (tysX Z) res) args s 0 0 (ws_A 211 (za Z))) (F0 m 4 ls []) := ih
    have h : m_X11_countNotes_4_s    (m_X11_countNotes_4    n) σ l1 l2 = some res := h
    unfold m_X11_countNotes_4_s at h
    refine lv_iload_n hx hb dX11_countNotes_4 rfl (lv_at hl 2 rfl) ?_
    refine lv_aload_n hx hb dX11_countNotes_5 rfl (lv_at hl 0 rfl) ?_
    refine wr_get (C := RX11) (T := TX11) (N := 16) hx hb hts (in_X11_countNotes_X11) hown hK hP (k := 155) (by decide) ((tX_TuneSearch Z) _ _ _) rfl 1 (by decide) (hts (.fieldLink RX11 87 "TuneSearch" "tuneCount" "I") (by decide +kernel)) (fun _ h9 => h9) rfl dX11_countNotes_6 ?_
    refine lv_icmp_ge (tgt := 30) hx hb dX11_countNotes_9 (by decide) (fun q1 => ?_) (fun q1 => ?_)
    · have h := if_p h q1
      refine lv_iload_n hx hb dX11_countNotes_30 rfl (lv_at hl 1 rfl) ?_
      exact xr_iret hx hb hr hlocks hE hJ hK hP hS h dX11_countNotes_31
    · have h := if_n h q1
      refine lv_iload_n hx hb dX11_countNotes_12 rfl (lv_at hl 1 rfl) ?_
      refine lv_aload_n hx hb dX11_countNotes_13 rfl (lv_at hl 0 rfl) ?_
      refine wr_get (C := RX11) (T := TX11) (N := 16) hx hb hts (in_X11_countNotes_X11) hown hK hP (k := 155) (by decide) ((tX_TuneSearch Z) _ _ _) rfl 0 (by decide) (hts (.fieldLink RX11 11 "TuneSearch" "tunes" "[LTuneSearch$NoteRow;") (by decide +kernel)) (fun _ h9 => h9) rfl dX11_countNotes_14 ?_
      refine lv_iload_n hx hb dX11_countNotes_17 rfl (lv_at hl 2 rfl) ?_
      obtain ⟨b2, h⟩ := gB_e h
      have hi3 := inB_lt b2
      have hi4 : l2.toNatClampNeg < 9 := Nat.lt_of_lt_of_le hi3 (by decide)
      refine wr_aald hx hb hK hP (k := 148) (by decide) 3 rfl ((tX_tunes Z) _ _ _) rfl b2 (row_at hi3) dX11_countNotes_18 ?_
      refine wr_get (C := RX4) (T := TX4) (N := 3) hx hb hts (in_X11_countNotes_X4) hown hK hP (k := (156 + l2.toNatClampNeg)) (by omega) ((tX_NoteRow Z l2.toNatClampNeg hi4) _ _ _) rfl 2 (by decide) (hts (.fieldLink RX11 99 "TuneSearch$NoteRow" "count" "I") (by decide +kernel)) (fun _ h9 => h9) rfl dX11_countNotes_19 ?_
      refine lv_iadd hx hb dX11_countNotes_22 ?_
      refine lv_topi (fun v5 e6 => ?_)
      have h := lS_u h e6
      refine lv_istore_n (lv' := [(1, .int v5), (0, .ref (za Z 155)), (2, .int l2)]) hx hb dX11_countNotes_23 rfl hl (by decide) rfl (fun ls hl => ?_)
      obtain ⟨v7, e8, h⟩ := lS_e h
      refine lv_iinc (v := v7) (lv' := [(2, .int v7), (1, .int v5), (0, .ref (za Z 155))]) hx hb dX11_countNotes_24 hl (k := 2) rfl (by rw [e8]; rfl) (by decide) rfl (fun ls hl => ?_)
      refine lv_goto (tgt := 4) hx hb dX11_countNotes_27 (by decide) ?_
      exact hc4 σ v5 v7 h H locs hP hS ls (lv_sub hl [2, 1, 0] rfl)
def m_X11_countNotes_0    (σ : SG)  : Option (Int32 × SG) :=
  m_X11_countNotes_4    FV σ 0 0
set_option maxHeartbeats 4000000 in
set_option maxRecDepth 100000 in
theorem kb_X11_countNotes_0 {p : Program} {l : Launch} {e : Env} {s : State} {m : MethodId} {args : Array Value} {below : List Frame} {meth : Method} {c : Code} {E : EF} (Z : ZT)    (C : cy p s m args meth c cX11_countNotes (some .int) 3 RX11 wsX11_countNotes E (zD Z) vwCl 211 (za Z) (tysX Z)) {res : Int32 × SG}   : ∀ (σ : SG)  , m_X11_countNotes_0    σ  = some res → ∀ (H : Heap) (locs : List Loc), ws_P (zD Z) vwCl 211 (za Z) (tX Z) σ H → va_S (ws_A 211 (za Z)) s.heap H locs → ∀ (ls : Array Slot), lv_has ls 3 [(0, .ref (za Z 155))] → W p l e rm_X11_countNotes s m args below meth c H locs 0 0 (MQ below (xQi E (zD Z) vwCl 211 (za Z) (tX Z) (tysX Z) res) args s 0 0 (ws_A 211 (za Z))) (F0 m 0 ls []) := by
  have C0 := C
  obtain ⟨hx, hb, hr, hlocks, hml, hown, hts, hE, hJ, hK⟩ := C0
  intro σ   h H locs hP hS ls hl
  unfold m_X11_countNotes_0 at h
  refine lv_iconst (v := 0) hx hb dX11_countNotes_0 (by decide) ?_
  refine lv_istore_n (lv' := [(1, .int 0), (0, .ref (za Z 155))]) hx hb dX11_countNotes_1 rfl hl (by decide) rfl (fun ls hl => ?_)
  refine lv_iconst (v := 0) hx hb dX11_countNotes_2 (by decide) ?_
  refine lv_istore_n (lv' := [(2, .int 0), (1, .int 0), (0, .ref (za Z 155))]) hx hb dX11_countNotes_3 rfl hl (by decide) rfl (fun ls hl => ?_)
  exact kb_X11_countNotes_4 Z    C   FV σ 0 0 h H locs hP hS ls (lv_sub hl [2, 1, 0] rfl)
def m_X11_countNotes   (σ : SG)  : Option (Int32 × SG) := m_X11_countNotes_0   σ 
set_option maxHeartbeats 4000000 in
set_option maxRecDepth 100000 in
theorem k_X11_countNotes (l : Launch) {E : EF} (Z : ZT)    (σ : SG)  {res : Int32 × SG} (h : m_X11_countNotes   σ  = some res) : Met l yX11_countNotes wsX11_countNotes rm_X11_countNotes (va_Pc [.ref (za Z 155)] (wx E (zD Z) vwCl 211 (za Z) (tX Z) (tysX Z) σ)) (xQi E (zD Z) vwCl 211 (za Z) (tX Z) (tysX Z) res) 0 0 (ws_A 211 (za Z)) := by
  refine Met.ofW (cc := cX11_countNotes) (maxL := 3) (ret := (some .int)) (by decide) rfl ?_
  intro p e s m args below meth c s₁ B hml hv
  obtain ⟨rfl, hE, hJ, hP, hK⟩ := hv
  have hl := lv_entry ([.ref (za Z 155)]) (n := 3) (Nat.le_of_ble_eq_true rfl)
  rw [lg_entry_eq]
  generalize (lg_sl ([.ref (za Z 155)]) ++ List.replicate (3 - (lg_sl ([.ref (za Z 155)])).length) Slot.unset).toArray = ls at hl ⊢
  exact kb_X11_countNotes_0 Z    ⟨B.exec, B.bytes, B.returns, B.notSynchronized, hml, findClass_of_methodNamed B.named, atoms_spec (ws := wsX11_countNotes) B.pre, hE, hJ, hK⟩ σ  h s.heap [] hP va_S.rf ls hl
/-! TuneSearch.told(I)I -/
abbrev rm_X11_told : Room := { frames := 1, cells := 0, slots := 0, locals := 22 }
theorem in_X11_told_X1 : ∀ w ∈ wsX10, w ∈ wsX11_told := by decide +kernel
theorem in_X11_told_X4 : ∀ w ∈ wsX40, w ∈ wsX11_told := by decide +kernel
theorem in_X11_told_X7 : ∀ w ∈ wsX70, w ∈ wsX11_told := by decide +kernel
theorem in_X11_told_X11 : ∀ w ∈ wsX110, w ∈ wsX11_told := by decide +kernel
def m_X11_told_0    (σ : SG) (p0 : Int32) : Option (Int32 × SG) :=
  if p0 = 0 then (some (σ.1 155 1, σ)) else (if p0 = 1 then (bi (m_X11_countNotes  σ ) (fun v3 σ4 => some (v3, σ4))) else (if p0 = 2 then (some (σ.1 (156 + 8) 2, σ)) else (if p0 = 3 then (some (σ.1 165 1, σ)) else (if p0 = 4 then (some (σ.1 207 0, σ)) else (some ((-2), σ))))))
set_option maxHeartbeats 4000000 in
set_option maxRecDepth 100000 in
theorem kb_X11_told_0 {p : Program} {l : Launch} {e : Env} {s : State} {m : MethodId} {args : Array Value} {below : List Frame} {meth : Method} {c : Code} {E : EF} (Z : ZT)    (C : cy p s m args meth c cX11_told (some .int) 2 RX11 wsX11_told E (zD Z) vwCl 211 (za Z) (tysX Z)) {res : Int32 × SG}   : ∀ (σ : SG) (p0 : Int32) , m_X11_told_0    σ p0 = some res → ∀ (H : Heap) (locs : List Loc), ws_P (zD Z) vwCl 211 (za Z) (tX Z) σ H → va_S (ws_A 211 (za Z)) s.heap H locs → ∀ (ls : Array Slot), lv_has ls 2 [(0, .ref (za Z 155)), (1, .int p0)] → W p l e rm_X11_told s m args below meth c H locs 0 0 (MQ below (xQi E (zD Z) vwCl 211 (za Z) (tX Z) (tysX Z) res) args s 0 0 (ws_A 211 (za Z))) (F0 m 0 ls []) := by
  have C0 := C
  obtain ⟨hx, hb, hr, hlocks, hml, hown, hts, hE, hJ, hK⟩ := C0
  intro σ p0  h H locs hP hS ls hl
  unfold m_X11_told_0 at h
  refine lv_iload_n hx hb dX11_told_0 rfl (lv_at hl 1 rfl) ?_
  by_cases q1 : p0 = 0
  · have h := if_p h q1
    refine lv_tableIn (tgt := 36) hx hb dX11_told_1 (by rw [q1]; decide) (by rw [q1]; decide) (by rw [q1]; rfl) (by decide) ?_
    refine lv_aload_n hx hb dX11_told_36 rfl (lv_at hl 0 rfl) ?_
    refine wr_get (C := RX11) (T := TX11) (N := 16) hx hb hts (in_X11_told_X11) hown hK hP (k := 155) (by decide) ((tX_TuneSearch Z) _ _ _) rfl 1 (by decide) (hts (.fieldLink RX11 87 "TuneSearch" "tuneCount" "I") (by decide +kernel)) (fun _ h9 => h9) rfl dX11_told_37 ?_
    exact xr_iret hx hb hr hlocks hE hJ hK hP hS h dX11_told_40
  · have h := if_n h q1
    by_cases q2 : p0 = 1
    · have h := if_p h q2
      refine lv_tableIn (tgt := 41) hx hb dX11_told_1 (by rw [q2]; decide) (by rw [q2]; decide) (by rw [q2]; rfl) (by decide) ?_
      refine lv_aload_n hx hb dX11_told_41 rfl (lv_at hl 0 rfl) ?_
      obtain ⟨v3, σ4, hm5, h⟩ := bi_e h
      refine xr_calli (res := (v3, σ4)) (va_runV (As := []) (rest := []) ⟨hx, hb, hml, hown, hts⟩ (k_X11_countNotes l Z   σ  hm5) (cwV 0 hts gX11_told_X11_countNotes rfl rfl rfl (by decide +kernel) ⟨Nat.le_of_ble_eq_true rfl, Nat.le_of_ble_eq_true rfl⟩) ⟨wx_blind, wr_recv hK hP (k := 155) (by decide) ((tX_TuneSearch Z) _ _ _) rfl, fun U hU hW => ⟨rfl, wx_at hE hJ hP hK hS hU hW⟩⟩ rfl rfl hl.1 rfl (lv_room (Nat.le_of_ble_eq_true rfl)) dX11_told_42 ⟨Nat.le_of_ble_eq_true rfl, Nat.le_of_ble_eq_true rfl⟩) hS (fun H locs hP hS => ?_)
      have hP : ws_P (zD Z) vwCl 211 (za Z) (tX Z) σ4 H := hP
      exact xr_iret hx hb hr hlocks hE hJ hK hP hS h dX11_told_45
    · have h := if_n h q2
      by_cases q6 : p0 = 2
      · have h := if_p h q6
        refine lv_tableIn (tgt := 46) hx hb dX11_told_1 (by rw [q6]; decide) (by rw [q6]; decide) (by rw [q6]; rfl) (by decide) ?_
        refine lv_aload_n hx hb dX11_told_46 rfl (lv_at hl 0 rfl) ?_
        refine wr_get (C := RX11) (T := TX11) (N := 16) hx hb hts (in_X11_told_X11) hown hK hP (k := 155) (by decide) ((tX_TuneSearch Z) _ _ _) rfl 2 (by decide) (hts (.fieldLink RX11 18 "TuneSearch" "asked" "LTuneSearch$NoteRow;") (by decide +kernel)) (fun _ h9 => h9) rfl dX11_told_47 ?_
        refine wr_get (C := RX4) (T := TX4) (N := 3) hx hb hts (in_X11_told_X4) hown hK hP (k := (156 + 8)) (by omega) ((tX_NoteRow Z 8 (by decide)) _ _ _) rfl 2 (by decide) (hts (.fieldLink RX11 99 "TuneSearch$NoteRow" "count" "I") (by decide +kernel)) (fun _ h9 => h9) rfl dX11_told_50 ?_
        exact xr_iret hx hb hr hlocks hE hJ hK hP hS h dX11_told_53
      · have h := if_n h q6
        by_cases q7 : p0 = 3
        · have h := if_p h q7
          refine lv_tableIn (tgt := 54) hx hb dX11_told_1 (by rw [q7]; decide) (by rw [q7]; decide) (by rw [q7]; rfl) (by decide) ?_
          refine lv_aload_n hx hb dX11_told_54 rfl (lv_at hl 0 rfl) ?_
          refine wr_get (C := RX11) (T := TX11) (N := 16) hx hb hts (in_X11_told_X11) hown hK hP (k := 155) (by decide) ((tX_TuneSearch Z) _ _ _) rfl 4 (by decide) (hts (.fieldLink RX11 35 "TuneSearch" "tape" "LTuneSearch$Tape;") (by decide +kernel)) (fun _ h9 => h9) rfl dX11_told_55 ?_
          refine wr_get (C := RX7) (T := TX7) (N := 2) hx hb hts (in_X11_told_X7) hown hK hP (k := 165) (by decide) ((tX_Tape Z) _ _ _) rfl 1 (by decide) (hts (.fieldLink RX11 109 "TuneSearch$Tape" "count" "I") (by decide +kernel)) (fun _ h9 => h9) rfl dX11_told_58 ?_
          exact xr_iret hx hb hr hlocks hE hJ hK hP hS h dX11_told_61
        · have h := if_n h q7
          by_cases q8 : p0 = 4
          · have h := if_p h q8
            refine lv_tableIn (tgt := 62) hx hb dX11_told_1 (by rw [q8]; decide) (by rw [q8]; decide) (by rw [q8]; rfl) (by decide) ?_
            refine lv_aload_n hx hb dX11_told_62 rfl (lv_at hl 0 rfl) ?_
            refine wr_get (C := RX11) (T := TX11) (N := 16) hx hb hts (in_X11_told_X11) hown hK hP (k := 155) (by decide) ((tX_TuneSearch Z) _ _ _) rfl 12 (by decide) (hts (.fieldLink RX11 73 "TuneSearch" "finds" "LTuneSearch$Finds;") (by decide +kernel)) (fun _ h9 => h9) rfl dX11_told_63 ?_
            refine wr_get (C := RX1) (T := TX1) (N := 3) hx hb hts (in_X11_told_X1) hown hK hP (k := 207) (by decide) ((tX_Finds Z) _ _ _) rfl 0 (by decide) (hts (.fieldLink RX11 127 "TuneSearch$Finds" "count" "I") (by decide +kernel)) (fun _ h9 => h9) rfl dX11_told_66 ?_
            exact xr_iret hx hb hr hlocks hE hJ hK hP hS h dX11_told_69
          · have h := if_n h q8
            have z9 : (p0 : Int32).toInt < 0 ∨ 4 < (p0 : Int32).toInt := by
              rcases Classical.em ((p0 : Int32).toInt < 0 ∨ 4 < (p0 : Int32).toInt) with z | z
              · exact z
              · exfalso
                have z2 : (p0 : Int32).toInt = 0 ∨ (p0 : Int32).toInt = 1 ∨ (p0 : Int32).toInt = 2 ∨ (p0 : Int32).toInt = 3 ∨ (p0 : Int32).toInt = 4 := by omega
                rcases z2 with z2 | z2 | z2 | z2 | z2
                · exact q1 (Int32.toInt_inj.mp (z2.trans (by decide)))
                · exact q2 (Int32.toInt_inj.mp (z2.trans (by decide)))
                · exact q6 (Int32.toInt_inj.mp (z2.trans (by decide)))
                · exact q7 (Int32.toInt_inj.mp (z2.trans (by decide)))
                · exact q8 (Int32.toInt_inj.mp (z2.trans (by decide)))
            refine lv_tableOut (tgt := 70) hx hb dX11_told_1 z9 (by decide) ?_
            refine lv_bipush (v := (-2)) hx hb dX11_told_70 (by decide) ?_
            exact xr_iret hx hb hr hlocks hE hJ hK hP hS h dX11_told_72
def m_X11_told   (σ : SG) (p0 : Int32) : Option (Int32 × SG) := m_X11_told_0   σ p0
set_option maxHeartbeats 4000000 in
set_option maxRecDepth 100000 in
theorem k_X11_told (l : Launch) {E : EF} (Z : ZT)    (σ : SG) (p0 : Int32) {res : Int32 × SG} (h : m_X11_told   σ p0 = some res) : Met l yX11_told wsX11_told rm_X11_told (va_Pc [.ref (za Z 155), .int p0] (wx E (zD Z) vwCl 211 (za Z) (tX Z) (tysX Z) σ)) (xQi E (zD Z) vwCl 211 (za Z) (tX Z) (tysX Z) res) 0 0 (ws_A 211 (za Z)) := by
  refine Met.ofW (cc := cX11_told) (maxL := 2) (ret := (some .int)) (by decide) rfl ?_
  intro p e s m args below meth c s₁ B hml hv
  obtain ⟨rfl, hE, hJ, hP, hK⟩ := hv
  have hl := lv_entry ([.ref (za Z 155), .int p0]) (n := 2) (Nat.le_of_ble_eq_true rfl)
  rw [lg_entry_eq]
  generalize (lg_sl ([.ref (za Z 155), .int p0]) ++ List.replicate (2 - (lg_sl ([.ref (za Z 155), .int p0])).length) Slot.unset).toArray = ls at hl ⊢
  exact kb_X11_told_0 Z    ⟨B.exec, B.bytes, B.returns, B.notSynchronized, hml, findClass_of_methodNamed B.named, atoms_spec (ws := wsX11_told) B.pre, hE, hJ, hK⟩ σ p0 h s.heap [] hP va_S.rf ls hl
