/-! TuneSearch$WordReader.readNumber(LTuneSearch$Tape;Z)V -/
abbrev rm_X10_readNumber : Room := { frames := 1, cells := 0, slots := 0, locals := 21 }
theorem in_X10_readNumber_X7 : ∀ w ∈ wsX70, w ∈ wsX10_readNumber := by decide +kernel
theorem in_X10_readNumber_X10 : ∀ w ∈ wsX100, w ∈ wsX10_readNumber := by decide +kernel
def m_X10_readNumber_108    (σ : SG) (l2 : Int32) (l4 : Int32) (s0 : Int32) : Option (Unit × SG) :=
  lS (sI σ 166 4 s0) (fun σ16 => if l2 = 0 then (lS (sI σ16 166 5 l4) (fun σ19 => some ((), σ19))) else (lS (sI σ16 166 5 (-l4)) (fun σ21 => some ((), σ21))))
set_option maxHeartbeats 4000000 in
set_option maxRecDepth 100000 in
theorem kb_X10_readNumber_108 {p : Program} {l : Launch} {e : Env} {s : State} {m : MethodId} {args : Array Value} {below : List Frame} {meth : Method} {c : Code} {E : EF} (Z : ZT)    (C : cy p s m args meth c cX10_readNumber none 5 RX10 wsX10_readNumber E (zD Z) vwCl 211 (za Z) (tysX Z)) {res : Unit × SG}   : ∀ (σ : SG) (l2 : Int32) (l4 : Int32) (s0 : Int32) , m_X10_readNumber_108    σ l2 l4 s0 = some res → ∀ (H : Heap) (locs : List Loc), ws_P (zD Z) vwCl 211 (za Z) (tX Z) σ H → va_S (ws_A 211 (za Z)) s.heap H locs → ∀ (ls : Array Slot), lv_has ls 5 [(0, .ref (za Z 166)), (2, .int l2), (4, .int l4)] → W p l e rm_X10_readNumber s m args below meth c H locs 0 0 (MQ below (xQv E (zD Z) vwCl 211 (za Z) (tX Z) (tysX Z) res) args s 0 0 (ws_A 211 (za Z))) (F0 m 108 ls [.int s0, .ref (za Z 166)]) := by
  have C0 := C
  obtain ⟨hx, hb, hr, hlocks, hml, hown, hts, hE, hJ, hK⟩ := C0
  intro σ l2 l4 s0  h H locs hP hS ls hl
  unfold m_X10_readNumber_108 at h
  refine wr_put (C := RX10) (T := TX10) (N := 9) (σ' := sI σ 166 4 s0) (ty := .int) hx hb hts (in_X10_readNumber_X10) tyX10 tyX10_ok nmX10 hown hK hP hJ hS (k := 166) (by decide) ((tX_WordReader Z) _ _ _) rfl 4 (by decide) (hts (.fieldLink RX10 44 "TuneSearch$WordReader" "token" "I") (by decide +kernel)) (fun _ h9 => h9) rfl (by decide +kernel) rfl rfl (Nat.le_of_ble_eq_true rfl) (ws_pI (tX_WordReader Z) rfl) dX10_readNumber_108 (fun H locs hP hS => ?_)
  obtain ⟨σ16, e17, h⟩ := lS_e h
  rw [← e17] at hP
  refine lv_aload_n hx hb dX10_readNumber_111 rfl (lv_at hl 0 rfl) ?_
  refine lv_iload_n hx hb dX10_readNumber_112 rfl (lv_at hl 1 rfl) ?_
  refine lv_if_eq (tgt := 122) hx hb dX10_readNumber_113 (by decide) (fun q18 => ?_) (fun q18 => ?_)
  · have h := if_p h q18
    refine lv_iload hx hb dX10_readNumber_122 (lv_at hl 2 rfl) ?_
    refine wr_put (C := RX10) (T := TX10) (N := 9) (σ' := sI σ16 166 5 l4) (ty := .int) hx hb hts (in_X10_readNumber_X10) tyX10 tyX10_ok nmX10 hown hK hP hJ hS (k := 166) (by decide) ((tX_WordReader Z) _ _ _) rfl 5 (by decide) (hts (.fieldLink RX10 88 "TuneSearch$WordReader" "number" "I") (by decide +kernel)) (fun _ h9 => h9) rfl (by decide +kernel) rfl rfl (Nat.le_of_ble_eq_true rfl) (ws_pI (tX_WordReader Z) rfl) dX10_readNumber_124 (fun H locs hP hS => ?_)
    obtain ⟨σ19, e20, h⟩ := lS_e h
    rw [← e20] at hP
    exact xr_vret hx hb hr hlocks hE hJ hK hP hS h dX10_readNumber_127
  · have h := if_n h q18
    refine lv_iload hx hb dX10_readNumber_116 (lv_at hl 2 rfl) ?_
    refine lv_ineg hx hb dX10_readNumber_118 ?_
    refine lv_goto (tgt := 124) hx hb dX10_readNumber_119 (by decide) ?_
    refine wr_put (C := RX10) (T := TX10) (N := 9) (σ' := sI σ16 166 5 (-l4)) (ty := .int) hx hb hts (in_X10_readNumber_X10) tyX10 tyX10_ok nmX10 hown hK hP hJ hS (k := 166) (by decide) ((tX_WordReader Z) _ _ _) rfl 5 (by decide) (hts (.fieldLink RX10 88 "TuneSearch$WordReader" "number" "I") (by decide +kernel)) (fun _ h9 => h9) rfl (by decide +kernel) rfl rfl (Nat.le_of_ble_eq_true rfl) (ws_pI (tX_WordReader Z) rfl) dX10_readNumber_124 (fun H locs hP hS => ?_)
    obtain ⟨σ21, e22, h⟩ := lS_e h
    rw [← e22] at hP
    exact xr_vret hx hb hr hlocks hE hJ hK hP hS h dX10_readNumber_127
def m_X10_readNumber_91    (σ : SG) (l2 : Int32) (l3 : Int32) (l4 : Int32) : Option (Unit × SG) :=
  if 3 < ((σ.1 166 3) - l3) then (m_X10_readNumber_108    σ l2 l4 (-1)) else (m_X10_readNumber_108    σ l2 l4 48)
set_option maxHeartbeats 4000000 in
set_option maxRecDepth 100000 in
theorem kb_X10_readNumber_91 {p : Program} {l : Launch} {e : Env} {s : State} {m : MethodId} {args : Array Value} {below : List Frame} {meth : Method} {c : Code} {E : EF} (Z : ZT)    (C : cy p s m args meth c cX10_readNumber none 5 RX10 wsX10_readNumber E (zD Z) vwCl 211 (za Z) (tysX Z)) {res : Unit × SG}   : ∀ (σ : SG) (l2 : Int32) (l3 : Int32) (l4 : Int32) , m_X10_readNumber_91    σ l2 l3 l4 = some res → ∀ (H : Heap) (locs : List Loc), ws_P (zD Z) vwCl 211 (za Z) (tX Z) σ H → va_S (ws_A 211 (za Z)) s.heap H locs → ∀ (ls : Array Slot), lv_has ls 5 [(0, .ref (za Z 166)), (2, .int l2), (3, .int l3), (4, .int l4)] → W p l e rm_X10_readNumber s m args below meth c H locs 0 0 (MQ below (xQv E (zD Z) vwCl 211 (za Z) (tX Z) (tysX Z) res) args s 0 0 (ws_A 211 (za Z))) (F0 m 91 ls []) := by
  have C0 := C
  obtain ⟨hx, hb, hr, hlocks, hml, hown, hts, hE, hJ, hK⟩ := C0
  intro σ l2 l3 l4  h H locs hP hS ls hl
  unfold m_X10_readNumber_91 at h
  refine lv_aload_n hx hb dX10_readNumber_91 rfl (lv_at hl 0 rfl) ?_
  refine lv_aload_n hx hb dX10_readNumber_92 rfl (lv_at hl 0 rfl) ?_
  refine wr_get (C := RX10) (T := TX10) (N := 9) hx hb hts (in_X10_readNumber_X10) hown hK hP (k := 166) (by decide) ((tX_WordReader Z) _ _ _) rfl 3 (by decide) (hts (.fieldLink RX10 22 "TuneSearch$WordReader" "next" "I") (by decide +kernel)) (fun _ h9 => h9) rfl dX10_readNumber_93 ?_
  refine lv_iload_n hx hb dX10_readNumber_96 rfl (lv_at hl 2 rfl) ?_
  refine lv_isub hx hb dX10_readNumber_97 ?_
  refine lv_iconst (v := 3) hx hb dX10_readNumber_98 (by decide) ?_
  refine lv_icmp_gt (tgt := 107) hx hb dX10_readNumber_99 (by decide) (fun q13 => ?_) (fun q13 => ?_)
  · have h := if_p h q13
    refine lv_iconst (v := (-1)) hx hb dX10_readNumber_107 (by decide) ?_
    exact kb_X10_readNumber_108 Z    C   σ l2 l4 (-1) h H locs hP hS ls (lv_sub hl [0, 1, 3] rfl)
  · have h := if_n h q13
    refine lv_bipush (v := 48) hx hb dX10_readNumber_102 (by decide) ?_
    refine lv_goto (tgt := 108) hx hb dX10_readNumber_104 (by decide) ?_
    exact kb_X10_readNumber_108 Z    C   σ l2 l4 48 h H locs hP hS ls (lv_sub hl [0, 1, 3] rfl)
def m_X10_readNumber_78   (c26 : SG → Int32 → Int32 → Int32 → Option (Unit × SG)) (σ : SG) (l2 : Int32) (l3 : Int32) (l4 : Int32) : Option (Unit × SG) :=
  lS (sI σ 166 3 ((σ.1 166 3) + 1)) (fun σ14 => c26 σ14 l2 l3 l4)
set_option maxHeartbeats 4000000 in
set_option maxRecDepth 100000 in
theorem kb_X10_readNumber_78 {p : Program} {l : Launch} {e : Env} {s : State} {m : MethodId} {args : Array Value} {below : List Frame} {meth : Method} {c : Code} {E : EF} (Z : ZT)    (C : cy p s m args meth c cX10_readNumber none 5 RX10 wsX10_readNumber E (zD Z) vwCl 211 (za Z) (tysX Z)) {res : Unit × SG} {c26 : SG → Int32 → Int32 → Int32 → Option (Unit × SG)} (hc26 : ∀ (σ : SG) (l2 : Int32) (l3 : Int32) (l4 : Int32) , c26 σ l2 l3 l4 = some res → ∀ (H : Heap) (locs : List Loc), ws_P (zD Z) vwCl 211 (za Z) (tX Z) σ H → va_S (ws_A 211 (za Z)) s.heap H locs → ∀ (ls : Array Slot), lv_has ls 5 [(0, .ref (za Z 166)), (1, .ref (za Z 165)), (2, .int l2), (3, .int l3), (4, .int l4)] → W p l e rm_X10_readNumber s m args below meth c H locs 0 0 (MQ below (xQv E (zD Z) vwCl 211 (za Z) (tX Z) (tysX Z) res) args s 0 0 (ws_A 211 (za Z))) (F0 m 26 ls [])) : ∀ (σ : SG) (l2 : Int32) (l3 : Int32) (l4 : Int32) , m_X10_readNumber_78   c26 σ l2 l3 l4 = some res → ∀ (H : Heap) (locs : List Loc), ws_P (zD Z) vwCl 211 (za Z) (tX Z) σ H → va_S (ws_A 211 (za Z)) s.heap H locs → ∀ (ls : Array Slot), lv_has ls 5 [(0, .ref (za Z 166)), (1, .ref (za Z 165)), (2, .int l2), (3, .int l3), (4, .int l4)] → W p l e rm_X10_readNumber s m args below meth c H locs 0 0 (MQ below (xQv E (zD Z) vwCl 211 (za Z) (tX Z) (tysX Z) res) args s 0 0 (ws_A 211 (za Z))) (F0 m 78 ls []) := by
  have C0 := C
  obtain ⟨hx, hb, hr, hlocks, hml, hown, hts, hE, hJ, hK⟩ := C0
  intro σ l2 l3 l4  h H locs hP hS ls hl
  unfold m_X10_readNumber_78 at h
  refine lv_aload_n hx hb dX10_readNumber_78 rfl (lv_at hl 0 rfl) ?_
  refine lv_dup hx hb dX10_readNumber_79 rfl ?_
  refine wr_get (C := RX10) (T := TX10) (N := 9) hx hb hts (in_X10_readNumber_X10) hown hK hP (k := 166) (by decide) ((tX_WordReader Z) _ _ _) rfl 3 (by decide) (hts (.fieldLink RX10 22 "TuneSearch$WordReader" "next" "I") (by decide +kernel)) (fun _ h9 => h9) rfl dX10_readNumber_80 ?_
  refine lv_iconst (v := 1) hx hb dX10_readNumber_83 (by decide) ?_
  refine lv_iadd hx hb dX10_readNumber_84 ?_
  refine wr_put (C := RX10) (T := TX10) (N := 9) (σ' := sI σ 166 3 ((σ.1 166 3) + 1)) (ty := .int) hx hb hts (in_X10_readNumber_X10) tyX10 tyX10_ok nmX10 hown hK hP hJ hS (k := 166) (by decide) ((tX_WordReader Z) _ _ _) rfl 3 (by decide) (hts (.fieldLink RX10 22 "TuneSearch$WordReader" "next" "I") (by decide +kernel)) (fun _ h9 => h9) rfl (by decide +kernel) rfl rfl (Nat.le_of_ble_eq_true rfl) (ws_pI (tX_WordReader Z) rfl) dX10_readNumber_85 (fun H locs hP hS => ?_)
  obtain ⟨σ14, e15, h⟩ := lS_e h
  rw [← e15] at hP
  refine lv_goto (tgt := 26) hx hb dX10_readNumber_88 (by decide) ?_
  exact hc26 σ14 l2 l3 l4 h H locs hP hS ls (lv_sub hl [0, 1, 2, 3, 4] rfl)
def m_X10_readNumber_26_s    (c26 : SG → Int32 → Int32 → Int32 → Option (Unit × SG)) (σ : SG) (l2 : Int32) (l3 : Int32) (l4 : Int32) : Option (Unit × SG) :=
  if (σ.1 165 1) ≤ (σ.1 166 3) then (m_X10_readNumber_91    σ l2 l3 l4) else (bi (m_X7_hasDigitAt  σ (σ.1 166 3)) (fun v5 σ6 => if v5 = 0 then (m_X10_readNumber_91    σ6 l2 l3 l4) else (if 3 ≤ ((σ6.1 166 3) - l3) then (m_X10_readNumber_78   c26 σ6 l2 l3 l4) else (gB (inB (σ6.1 166 3) 160) (lS (((10 * l4) + (σ6.1 19 (σ6.1 166 3).toNatClampNeg)) - 48) (fun v11 => m_X10_readNumber_78   c26 σ6 l2 l3 v11))))))
def m_X10_readNumber_26    : Nat → SG → Int32 → Int32 → Int32 → Option (Unit × SG)
  | 0, _, _, _, _ => none
  | n + 1, σ, l2, l3, l4 => m_X10_readNumber_26_s    (m_X10_readNumber_26    n) σ l2 l3 l4
set_option maxHeartbeats 4000000 in
set_option maxRecDepth 100000 in
theorem kb_X10_readNumber_26 {p : Program} {l : Launch} {e : Env} {s : State} {m : MethodId} {args : Array Value} {below : List Frame} {meth : Method} {c : Code} {E : EF} (Z : ZT)    (C : cy p s m args meth c cX10_readNumber none 5 RX10 wsX10_readNumber E (zD Z) vwCl 211 (za Z) (tysX Z)) {res : Unit × SG}   : ∀ (n : Nat) (σ : SG) (l2 : Int32) (l3 : Int32) (l4 : Int32) , m_X10_readNumber_26    n σ l2 l3 l4 = some res → ∀ (H : Heap) (locs : List Loc), ws_P (zD Z) vwCl 211 (za Z) (tX Z) σ H → va_S (ws_A 211 (za Z)) s.heap H locs → ∀ (ls : Array Slot), lv_has ls 5 [(0, .ref (za Z 166)), (1, .ref (za Z 165)), (2, .int l2), (3, .int l3), (4, .int l4)] → W p l e rm_X10_readNumber s m args below meth c H locs 0 0 (MQ below (xQv E (zD Z) vwCl 211 (za Z) (tX Z) (tysX Z) res) args s 0 0 (ws_A 211 (za Z))) (F0 m 26 ls []) := by
  have C0 := C
  obtain ⟨hx, hb, hr, hlocks, hml, hown, hts, hE, hJ, hK⟩ := C0
  intro n
  induction n with
  | zero =>
    intro σ l2 l3 l4  h
    cases h
  | succ n ih =>
    intro σ l2 l3 l4  h H locs hP hS ls hl
    have hc26 : ∀ (σ : SG) (l2 : Int32) (l3 : Int32) (l4 : Int32) , m_X10_readNumber_26    n σ l2 l3 l4 = some res → ∀ (H : Heap) (locs : List Loc), ws_P (zD Z) vwCl 211 (za Z) (tX Z) σ H → va_S (ws_A 211 (za Z)) s.heap H locs → ∀ (ls : Array Slot), lv_has ls 5 [(0, .ref (za Z 166)), (1, .ref (za Z 165)), (2, .int l2), (3, .int l3), (4, .int l4)] → W p l e rm_X10_readNumber s m args below meth c H locs 0 0 (MQ below (xQv E (zD Z) vwCl 211 (za Z) (tX Z) (tysX Z) res) args s 0 0 (ws_A 211 (za Z))) (F0 m 26 ls []) := ih
    have h : m_X10_readNumber_26_s    (m_X10_readNumber_26    n) σ l2 l3 l4 = some res := h
    unfold m_X10_readNumber_26_s at h
    refine lv_aload_n hx hb dX10_readNumber_26 rfl (lv_at hl 0 rfl) ?_
    refine wr_get (C := RX10) (T := TX10) (N := 9) hx hb hts (in_X10_readNumber_X10) hown hK hP (k := 166) (by decide) ((tX_WordReader Z) _ _ _) rfl 3 (by decide) (hts (.fieldLink RX10 22 "TuneSearch$WordReader" "next" "I") (by decide +kernel)) (fun _ h9 => h9) rfl dX10_readNumber_27 ?_
    refine lv_aload_n hx hb dX10_readNumber_30 rfl (lv_at hl 1 rfl) ?_
    refine wr_get (C := RX7) (T := TX7) (N := 2) hx hb hts (in_X10_readNumber_X7) hown hK hP (k := 165) (by decide) ((tX_Tape Z) _ _ _) rfl 1 (by decide) (hts (.fieldLink RX10 66 "TuneSearch$Tape" "count" "I") (by decide +kernel)) (fun _ h9 => h9) rfl dX10_readNumber_31 ?_
    refine lv_icmp_ge (tgt := 91) hx hb dX10_readNumber_34 (by decide) (fun q4 => ?_) (fun q4 => ?_)
    · have h := if_p h q4
      exact kb_X10_readNumber_91 Z    C   σ l2 l3 l4 h H locs hP hS ls (lv_sub hl [0, 2, 3, 4] rfl)
    · have h := if_n h q4
      refine lv_aload_n hx hb dX10_readNumber_37 rfl (lv_at hl 1 rfl) ?_
      refine lv_aload_n hx hb dX10_readNumber_38 rfl (lv_at hl 0 rfl) ?_
      refine wr_get (C := RX10) (T := TX10) (N := 9) hx hb hts (in_X10_readNumber_X10) hown hK hP (k := 166) (by decide) ((tX_WordReader Z) _ _ _) rfl 3 (by decide) (hts (.fieldLink RX10 22 "TuneSearch$WordReader" "next" "I") (by decide +kernel)) (fun _ h9 => h9) rfl dX10_readNumber_39 ?_
      obtain ⟨v5, σ6, hm7, h⟩ := bi_e h
      refine xr_calli (res := (v5, σ6)) (va_runV (As := [.int (σ.1 166 3)]) (rest := []) ⟨hx, hb, hml, hown, hts⟩ (k_X7_hasDigitAt l Z   σ (σ.1 166 3) hm7) (cwV 1 hts gX10_readNumber_X7_hasDigitAt rfl rfl rfl (by decide +kernel) ⟨Nat.le_of_ble_eq_true rfl, Nat.le_of_ble_eq_true rfl⟩) ⟨wx_blind, wr_recv hK hP (k := 165) (by decide) ((tX_Tape Z) _ _ _) rfl, fun U hU hW => ⟨rfl, wx_at hE hJ hP hK hS hU hW⟩⟩ rfl rfl hl.1 rfl (lv_room (Nat.le_of_ble_eq_true rfl)) dX10_readNumber_42 ⟨Nat.le_of_ble_eq_true rfl, Nat.le_of_ble_eq_true rfl⟩) hS (fun H locs hP hS => ?_)
      have hP : ws_P (zD Z) vwCl 211 (za Z) (tX Z) σ6 H := hP
      refine lv_if_eq (tgt := 91) hx hb dX10_readNumber_45 (by decide) (fun q8 => ?_) (fun q8 => ?_)
      · have h := if_p h q8
        exact kb_X10_readNumber_91 Z    C   σ6 l2 l3 l4 h H locs hP hS ls (lv_sub hl [0, 2, 3, 4] rfl)
      · have h := if_n h q8
        refine lv_aload_n hx hb dX10_readNumber_48 rfl (lv_at hl 0 rfl) ?_
        refine wr_get (C := RX10) (T := TX10) (N := 9) hx hb hts (in_X10_readNumber_X10) hown hK hP (k := 166) (by decide) ((tX_WordReader Z) _ _ _) rfl 3 (by decide) (hts (.fieldLink RX10 22 "TuneSearch$WordReader" "next" "I") (by decide +kernel)) (fun _ h9 => h9) rfl dX10_readNumber_49 ?_
        refine lv_iload_n hx hb dX10_readNumber_52 rfl (lv_at hl 3 rfl) ?_
        refine lv_isub hx hb dX10_readNumber_53 ?_
        refine lv_iconst (v := 3) hx hb dX10_readNumber_54 (by decide) ?_
        refine lv_icmp_ge (tgt := 78) hx hb dX10_readNumber_55 (by decide) (fun q9 => ?_) (fun q9 => ?_)
        · have h := if_p h q9
          exact kb_X10_readNumber_78 Z    C  hc26 σ6 l2 l3 l4 h H locs hP hS ls (lv_sub hl [0, 1, 2, 3, 4] rfl)
        · have h := if_n h q9
          refine lv_bipush (v := 10) hx hb dX10_readNumber_58 (by decide) ?_
          refine lv_iload hx hb dX10_readNumber_60 (lv_at hl 4 rfl) ?_
          refine lv_imul hx hb dX10_readNumber_62 ?_
          refine lv_aload_n hx hb dX10_readNumber_63 rfl (lv_at hl 1 rfl) ?_
          refine wr_get (C := RX7) (T := TX7) (N := 2) hx hb hts (in_X10_readNumber_X7) hown hK hP (k := 165) (by decide) ((tX_Tape Z) _ _ _) rfl 0 (by decide) (hts (.fieldLink RX10 69 "TuneSearch$Tape" "bytes" "[I") (by decide +kernel)) (fun _ h9 => h9) rfl dX10_readNumber_64 ?_
          refine lv_aload_n hx hb dX10_readNumber_67 rfl (lv_at hl 0 rfl) ?_
          refine wr_get (C := RX10) (T := TX10) (N := 9) hx hb hts (in_X10_readNumber_X10) hown hK hP (k := 166) (by decide) ((tX_WordReader Z) _ _ _) rfl 3 (by decide) (hts (.fieldLink RX10 22 "TuneSearch$WordReader" "next" "I") (by decide +kernel)) (fun _ h9 => h9) rfl dX10_readNumber_68 ?_
          obtain ⟨b10, h⟩ := gB_e h
          refine wr_iald hx hb hK hP (k := 19) (by decide) 0 ((tX_I Z 19 (by decide)) _ _ _) rfl b10 dX10_readNumber_71 ?_
          refine lv_iadd hx hb dX10_readNumber_72 ?_
          refine lv_bipush (v := 48) hx hb dX10_readNumber_73 (by decide) ?_
          refine lv_isub hx hb dX10_readNumber_75 ?_
          refine lv_topi (fun v11 e12 => ?_)
          have h := lS_u h e12
          refine lv_istore (lv' := [(4, .int v11), (0, .ref (za Z 166)), (1, .ref (za Z 165)), (2, .int l2), (3, .int l3)]) hx hb dX10_readNumber_76 hl (by decide) rfl (fun ls hl => ?_)
          exact kb_X10_readNumber_78 Z    C  hc26 σ6 l2 l3 v11 h H locs hP hS ls (lv_sub hl [1, 2, 3, 4, 0] rfl)
def m_X10_readNumber_17    (σ : SG) (l2 : Int32) (s0 : Int32) : Option (Unit × SG) :=
  lS (sI σ 166 3 s0) (fun σ2 => m_X10_readNumber_26    FV σ2 l2 s0 0)
set_option maxHeartbeats 4000000 in
set_option maxRecDepth 100000 in
theorem kb_X10_readNumber_17 {p : Program} {l : Launch} {e : Env} {s : State} {m : MethodId} {args : Array Value} {below : List Frame} {meth : Method} {c : Code} {E : EF} (Z : ZT)    (C : cy p s m args meth c cX10_readNumber none 5 RX10 wsX10_readNumber E (zD Z) vwCl 211 (za Z) (tysX Z)) {res : Unit × SG}   : ∀ (σ : SG) (l2 : Int32) (s0 : Int32) , m_X10_readNumber_17    σ l2 s0 = some res → ∀ (H : Heap) (locs : List Loc), ws_P (zD Z) vwCl 211 (za Z) (tX Z) σ H → va_S (ws_A 211 (za Z)) s.heap H locs → ∀ (ls : Array Slot), lv_has ls 5 [(0, .ref (za Z 166)), (1, .ref (za Z 165)), (2, .int l2)] → W p l e rm_X10_readNumber s m args below meth c H locs 0 0 (MQ below (xQv E (zD Z) vwCl 211 (za Z) (tX Z) (tysX Z) res) args s 0 0 (ws_A 211 (za Z))) (F0 m 17 ls [.int s0]) := by
  have C0 := C
  obtain ⟨hx, hb, hr, hlocks, hml, hown, hts, hE, hJ, hK⟩ := C0
  intro σ l2 s0  h H locs hP hS ls hl
  unfold m_X10_readNumber_17 at h
  refine lv_istore_n (lv' := [(3, .int s0), (0, .ref (za Z 166)), (1, .ref (za Z 165)), (2, .int l2)]) hx hb dX10_readNumber_17 rfl hl (by decide) rfl (fun ls hl => ?_)
  refine lv_iconst (v := 0) hx hb dX10_readNumber_18 (by decide) ?_
  refine lv_istore (lv' := [(4, .int 0), (3, .int s0), (0, .ref (za Z 166)), (1, .ref (za Z 165)), (2, .int l2)]) hx hb dX10_readNumber_19 hl (by decide) rfl (fun ls hl => ?_)
  refine lv_aload_n hx hb dX10_readNumber_21 rfl (lv_at hl 2 rfl) ?_
  refine lv_iload_n hx hb dX10_readNumber_22 rfl (lv_at hl 1 rfl) ?_
  refine wr_put (C := RX10) (T := TX10) (N := 9) (σ' := sI σ 166 3 s0) (ty := .int) hx hb hts (in_X10_readNumber_X10) tyX10 tyX10_ok nmX10 hown hK hP hJ hS (k := 166) (by decide) ((tX_WordReader Z) _ _ _) rfl 3 (by decide) (hts (.fieldLink RX10 22 "TuneSearch$WordReader" "next" "I") (by decide +kernel)) (fun _ h9 => h9) rfl (by decide +kernel) rfl rfl (Nat.le_of_ble_eq_true rfl) (ws_pI (tX_WordReader Z) rfl) dX10_readNumber_23 (fun H locs hP hS => ?_)
  obtain ⟨σ2, e3, h⟩ := lS_e h
  rw [← e3] at hP
  exact kb_X10_readNumber_26 Z    C   FV σ2 l2 s0 0 h H locs hP hS ls (lv_sub hl [2, 3, 4, 1, 0] rfl)
def m_X10_readNumber_0    (σ : SG) (p1 : Int32) : Option (Unit × SG) :=
  if p1 = 0 then (m_X10_readNumber_17    σ p1 (σ.1 166 3)) else (m_X10_readNumber_17    σ p1 ((σ.1 166 3) + 1))
set_option maxHeartbeats 4000000 in
set_option maxRecDepth 100000 in
theorem kb_X10_readNumber_0 {p : Program} {l : Launch} {e : Env} {s : State} {m : MethodId} {args : Array Value} {below : List Frame} {meth : Method} {c : Code} {E : EF} (Z : ZT)    (C : cy p s m args meth c cX10_readNumber none 5 RX10 wsX10_readNumber E (zD Z) vwCl 211 (za Z) (tysX Z)) {res : Unit × SG}   : ∀ (σ : SG) (p1 : Int32) , m_X10_readNumber_0    σ p1 = some res → ∀ (H : Heap) (locs : List Loc), ws_P (zD Z) vwCl 211 (za Z) (tX Z) σ H → va_S (ws_A 211 (za Z)) s.heap H locs → ∀ (ls : Array Slot), lv_has ls 5 [(0, .ref (za Z 166)), (1, .ref (za Z 165)), (2, .int p1)] → W p l e rm_X10_readNumber s m args below meth c H locs 0 0 (MQ below (xQv E (zD Z) vwCl 211 (za Z) (tX Z) (tysX Z) res) args s 0 0 (ws_A 211 (za Z))) (F0 m 0 ls []) := by
  have C0 := C
  obtain ⟨hx, hb, hr, hlocks, hml, hown, hts, hE, hJ, hK⟩ := C0
  intro σ p1  h H locs hP hS ls hl
  unfold m_X10_readNumber_0 at h
  refine lv_iload_n hx hb dX10_readNumber_0 rfl (lv_at hl 2 rfl) ?_
  refine lv_if_eq (tgt := 13) hx hb dX10_readNumber_1 (by decide) (fun q1 => ?_) (fun q1 => ?_)
  · have h := if_p h q1
    refine lv_aload_n hx hb dX10_readNumber_13 rfl (lv_at hl 0 rfl) ?_
    refine wr_get (C := RX10) (T := TX10) (N := 9) hx hb hts (in_X10_readNumber_X10) hown hK hP (k := 166) (by decide) ((tX_WordReader Z) _ _ _) rfl 3 (by decide) (hts (.fieldLink RX10 22 "TuneSearch$WordReader" "next" "I") (by decide +kernel)) (fun _ h9 => h9) rfl dX10_readNumber_14 ?_
    exact kb_X10_readNumber_17 Z    C   σ p1 (σ.1 166 3) h H locs hP hS ls (lv_sub hl [0, 1, 2] rfl)
  · have h := if_n h q1
    refine lv_aload_n hx hb dX10_readNumber_4 rfl (lv_at hl 0 rfl) ?_
    refine wr_get (C := RX10) (T := TX10) (N := 9) hx hb hts (in_X10_readNumber_X10) hown hK hP (k := 166) (by decide) ((tX_WordReader Z) _ _ _) rfl 3 (by decide) (hts (.fieldLink RX10 22 "TuneSearch$WordReader" "next" "I") (by decide +kernel)) (fun _ h9 => h9) rfl dX10_readNumber_5 ?_
    refine lv_iconst (v := 1) hx hb dX10_readNumber_8 (by decide) ?_
    refine lv_iadd hx hb dX10_readNumber_9 ?_
    refine lv_goto (tgt := 17) hx hb dX10_readNumber_10 (by decide) ?_
    exact kb_X10_readNumber_17 Z    C   σ p1 ((σ.1 166 3) + 1) h H locs hP hS ls (lv_sub hl [0, 1, 2] rfl)
def m_X10_readNumber   (σ : SG) (p1 : Int32) : Option (Unit × SG) := m_X10_readNumber_0   σ p1
set_option maxHeartbeats 4000000 in
set_option maxRecDepth 100000 in
theorem k_X10_readNumber (l : Launch) {E : EF} (Z : ZT)    (σ : SG) (p1 : Int32) {res : Unit × SG} (h : m_X10_readNumber   σ p1 = some res) : Met l yX10_readNumber wsX10_readNumber rm_X10_readNumber (va_Pc [.ref (za Z 166), .ref (za Z 165), .int p1] (wx E (zD Z) vwCl 211 (za Z) (tX Z) (tysX Z) σ)) (xQv E (zD Z) vwCl 211 (za Z) (tX Z) (tysX Z) res) 0 0 (ws_A 211 (za Z)) := by
  refine Met.ofW (cc := cX10_readNumber) (maxL := 5) (ret := none) (by decide) rfl ?_
  intro p e s m args below meth c s₁ B hml hv
  obtain ⟨rfl, hE, hJ, hP, hK⟩ := hv
  have hl := lv_entry ([.ref (za Z 166), .ref (za Z 165), .int p1]) (n := 5) (Nat.le_of_ble_eq_true rfl)
  rw [lg_entry_eq]
  generalize (lg_sl ([.ref (za Z 166), .ref (za Z 165), .int p1]) ++ List.replicate (5 - (lg_sl ([.ref (za Z 166), .ref (za Z 165), .int p1])).length) Slot.unset).toArray = ls at hl ⊢
  exact kb_X10_readNumber_0 Z    ⟨B.exec, B.bytes, B.returns, B.notSynchronized, hml, findClass_of_methodNamed B.named, atoms_spec (ws := wsX10_readNumber) B.pre, hE, hJ, hK⟩ σ p1 h s.heap [] hP va_S.rf ls hl
/-! TuneSearch$WordReader.markOrNone(I)I -/
abbrev rm_X10_markOrNone : Room := { frames := 0, cells := 0, slots := 0, locals := 0 }
def m_X10_markOrNone_0    (σ : SG) (p0 : Int32) : Option (Int32 × SG) :=
  if p0 = 40 then (some (p0, σ)) else (if p0 = 41 then (some (p0, σ)) else (if p0 = 42 then (some (p0, σ)) else (if p0 = 43 then (some (p0, σ)) else (if p0 = 44 then (some (p0, σ)) else (if p0 = 46 then (some (p0, σ)) else (if p0 = 63 then (some (p0, σ)) else (if p0 = 91 then (some (p0, σ)) else (if p0 = 93 then (some (p0, σ)) else (if p0 = 114 then (some (p0, σ)) else (if p0 = 124 then (some (p0, σ)) else (some ((-1), σ))))))))))))
set_option maxHeartbeats 4000000 in
set_option maxRecDepth 100000 in
theorem kb_X10_markOrNone_0 {p : Program} {l : Launch} {e : Env} {s : State} {m : MethodId} {args : Array Value} {below : List Frame} {meth : Method} {c : Code} {E : EF} (Z : ZT)    (C : cy p s m args meth c cX10_markOrNone (some .int) 1 RX10 wsX10_markOrNone E (zD Z) vwCl 211 (za Z) (tysX Z)) {res : Int32 × SG}   : ∀ (σ : SG) (p0 : Int32) , m_X10_markOrNone_0    σ p0 = some res → ∀ (H : Heap) (locs : List Loc), ws_P (zD Z) vwCl 211 (za Z) (tX Z) σ H → va_S (ws_A 211 (za Z)) s.heap H locs → ∀ (ls : Array Slot), lv_has ls 1 [(0, .int p0)] → W p l e rm_X10_markOrNone s m args below meth c H locs 0 0 (MQ below (xQi E (zD Z) vwCl 211 (za Z) (tX Z) (tysX Z) res) args s 0 0 (ws_A 211 (za Z))) (F0 m 0 ls []) := by
  have C0 := C
  obtain ⟨hx, hb, hr, hlocks, hml, hown, hts, hE, hJ, hK⟩ := C0
  intro σ p0  h H locs hP hS ls hl
  unfold m_X10_markOrNone_0 at h
  refine lv_iload_n hx hb dX10_markOrNone_0 rfl (lv_at hl 0 rfl) ?_
  by_cases q1 : p0 = 40
  · have h := if_p h q1
    refine lv_lookup (off := 99) (tgt := 100) hx hb dX10_markOrNone_1 (by decide) (by first | (rw [q1]; done) | (rw [q1]; rfl)) (by decide) ?_
    refine lv_iload_n hx hb dX10_markOrNone_100 rfl (lv_at hl 0 rfl) ?_
    exact xr_iret hx hb hr hlocks hE hJ hK hP hS h dX10_markOrNone_101
  · have h := if_n h q1
    by_cases q2 : p0 = 41
    · have h := if_p h q2
      refine lv_lookup (off := 99) (tgt := 100) hx hb dX10_markOrNone_1 (by decide) (by first | (rw [q2]; done) | (rw [q2]; rfl)) (by decide) ?_
      refine lv_iload_n hx hb dX10_markOrNone_100 rfl (lv_at hl 0 rfl) ?_
      exact xr_iret hx hb hr hlocks hE hJ hK hP hS h dX10_markOrNone_101
    · have h := if_n h q2
      by_cases q3 : p0 = 42
      · have h := if_p h q3
        refine lv_lookup (off := 99) (tgt := 100) hx hb dX10_markOrNone_1 (by decide) (by first | (rw [q3]; done) | (rw [q3]; rfl)) (by decide) ?_
        refine lv_iload_n hx hb dX10_markOrNone_100 rfl (lv_at hl 0 rfl) ?_
        exact xr_iret hx hb hr hlocks hE hJ hK hP hS h dX10_markOrNone_101
      · have h := if_n h q3
        by_cases q4 : p0 = 43
        · have h := if_p h q4
          refine lv_lookup (off := 99) (tgt := 100) hx hb dX10_markOrNone_1 (by decide) (by first | (rw [q4]; done) | (rw [q4]; rfl)) (by decide) ?_
          refine lv_iload_n hx hb dX10_markOrNone_100 rfl (lv_at hl 0 rfl) ?_
          exact xr_iret hx hb hr hlocks hE hJ hK hP hS h dX10_markOrNone_101
        · have h := if_n h q4
          by_cases q5 : p0 = 44
          · have h := if_p h q5
            refine lv_lookup (off := 99) (tgt := 100) hx hb dX10_markOrNone_1 (by decide) (by first | (rw [q5]; done) | (rw [q5]; rfl)) (by decide) ?_
            refine lv_iload_n hx hb dX10_markOrNone_100 rfl (lv_at hl 0 rfl) ?_
            exact xr_iret hx hb hr hlocks hE hJ hK hP hS h dX10_markOrNone_101
          · have h := if_n h q5
            by_cases q6 : p0 = 46
            · have h := if_p h q6
              refine lv_lookup (off := 99) (tgt := 100) hx hb dX10_markOrNone_1 (by decide) (by first | (rw [q6]; done) | (rw [q6]; rfl)) (by decide) ?_
              refine lv_iload_n hx hb dX10_markOrNone_100 rfl (lv_at hl 0 rfl) ?_
              exact xr_iret hx hb hr hlocks hE hJ hK hP hS h dX10_markOrNone_101
            · have h := if_n h q6
              by_cases q7 : p0 = 63
              · have h := if_p h q7
                refine lv_lookup (off := 99) (tgt := 100) hx hb dX10_markOrNone_1 (by decide) (by first | (rw [q7]; done) | (rw [q7]; rfl)) (by decide) ?_
                refine lv_iload_n hx hb dX10_markOrNone_100 rfl (lv_at hl 0 rfl) ?_
                exact xr_iret hx hb hr hlocks hE hJ hK hP hS h dX10_markOrNone_101
              · have h := if_n h q7
                by_cases q8 : p0 = 91
                · have h := if_p h q8
                  refine lv_lookup (off := 99) (tgt := 100) hx hb dX10_markOrNone_1 (by decide) (by first | (rw [q8]; done) | (rw [q8]; rfl)) (by decide) ?_
                  refine lv_iload_n hx hb dX10_markOrNone_100 rfl (lv_at hl 0 rfl) ?_
                  exact xr_iret hx hb hr hlocks hE hJ hK hP hS h dX10_markOrNone_101
                · have h := if_n h q8
                  by_cases q9 : p0 = 93
                  · have h := if_p h q9
                    refine lv_lookup (off := 99) (tgt := 100) hx hb dX10_markOrNone_1 (by decide) (by first | (rw [q9]; done) | (rw [q9]; rfl)) (by decide) ?_
                    refine lv_iload_n hx hb dX10_markOrNone_100 rfl (lv_at hl 0 rfl) ?_
                    exact xr_iret hx hb hr hlocks hE hJ hK hP hS h dX10_markOrNone_101
                  · have h := if_n h q9
                    by_cases q10 : p0 = 114
                    · have h := if_p h q10
                      refine lv_lookup (off := 99) (tgt := 100) hx hb dX10_markOrNone_1 (by decide) (by first | (rw [q10]; done) | (rw [q10]; rfl)) (by decide) ?_
                      refine lv_iload_n hx hb dX10_markOrNone_100 rfl (lv_at hl 0 rfl) ?_
                      exact xr_iret hx hb hr hlocks hE hJ hK hP hS h dX10_markOrNone_101
                    · have h := if_n h q10
                      by_cases q11 : p0 = 124
                      · have h := if_p h q11
                        refine lv_lookup (off := 99) (tgt := 100) hx hb dX10_markOrNone_1 (by decide) (by first | (rw [q11]; done) | (rw [q11]; rfl)) (by decide) ?_
                        refine lv_iload_n hx hb dX10_markOrNone_100 rfl (lv_at hl 0 rfl) ?_
                        exact xr_iret hx hb hr hlocks hE hJ hK hP hS h dX10_markOrNone_101
                      · have h := if_n h q11
                        refine lv_lookup (off := 101) (tgt := 102) hx hb dX10_markOrNone_1 (by decide) ((lv_osw q1 rfl).trans ((lv_osw q2 rfl).trans ((lv_osw q3 rfl).trans ((lv_osw q4 rfl).trans ((lv_osw q5 rfl).trans ((lv_osw q6 rfl).trans ((lv_osw q7 rfl).trans ((lv_osw q8 rfl).trans ((lv_osw q9 rfl).trans ((lv_osw q10 rfl).trans ((lv_osw q11 rfl).trans rfl))))))))))) (by decide) ?_
                        refine lv_iconst (v := (-1)) hx hb dX10_markOrNone_102 (by decide) ?_
                        exact xr_iret hx hb hr hlocks hE hJ hK hP hS h dX10_markOrNone_103
def m_X10_markOrNone   (σ : SG) (p0 : Int32) : Option (Int32 × SG) := m_X10_markOrNone_0   σ p0
set_option maxHeartbeats 4000000 in
set_option maxRecDepth 100000 in
theorem k_X10_markOrNone (l : Launch) {E : EF} (Z : ZT)    (σ : SG) (p0 : Int32) {res : Int32 × SG} (h : m_X10_markOrNone   σ p0 = some res) : Met l yX10_markOrNone wsX10_markOrNone rm_X10_markOrNone (va_Pc [.int p0] (wx E (zD Z) vwCl 211 (za Z) (tX Z) (tysX Z) σ)) (xQi E (zD Z) vwCl 211 (za Z) (tX Z) (tysX Z) res) 0 0 (ws_A 211 (za Z)) := by
  refine Met.ofW (cc := cX10_markOrNone) (maxL := 1) (ret := (some .int)) (by decide) rfl ?_
  intro p e s m args below meth c s₁ B hml hv
  obtain ⟨rfl, hE, hJ, hP, hK⟩ := hv
  have hl := lv_entry ([.int p0]) (n := 1) (Nat.le_of_ble_eq_true rfl)
  rw [lg_entry_eq]
  generalize (lg_sl ([.int p0]) ++ List.replicate (1 - (lg_sl ([.int p0])).length) Slot.unset).toArray = ls at hl ⊢
  exact kb_X10_markOrNone_0 Z    ⟨B.exec, B.bytes, B.returns, B.notSynchronized, hml, findClass_of_methodNamed B.named, atoms_spec (ws := wsX10_markOrNone) B.pre, hE, hJ, hK⟩ σ p0 h s.heap [] hP va_S.rf ls hl
/-! TuneSearch$WordReader.readToken(LTuneSearch$Tape;)V -/
abbrev rm_X10_readToken : Room := { frames := 2, cells := 0, slots := 0, locals := 45 }
theorem in_X10_readToken_X7 : ∀ w ∈ wsX70, w ∈ wsX10_readToken := by decide +kernel
theorem in_X10_readToken_X10 : ∀ w ∈ wsX100, w ∈ wsX10_readToken := by decide +kernel
def m_X10_readToken_101    (σ : SG) (l2 : Int32) (s0 : Int32) : Option (Unit × SG) :=
  bi (m_X7_hasDigitAt  σ s0) (fun v14 σ15 => if v14 = 0 then (gB (inB (σ15.1 166 3) 160) (bi (m_X10_markOrNone  σ15 (σ15.1 19 (σ15.1 166 3).toNatClampNeg)) (fun v19 σ20 => lS (sI σ20 166 4 v19) (fun σ22 => lS (sI σ22 166 3 ((σ22.1 166 3) + 1)) (fun σ24 => some ((), σ24)))))) else (bi (m_X10_readNumber  σ15 l2) (fun v26 σ27 => some ((), σ27))))
set_option maxHeartbeats 4000000 in
set_option maxRecDepth 100000 in
theorem kb_X10_readToken_101 {p : Program} {l : Launch} {e : Env} {s : State} {m : MethodId} {args : Array Value} {below : List Frame} {meth : Method} {c : Code} {E : EF} (Z : ZT)    (C : cy p s m args meth c cX10_readToken none 3 RX10 wsX10_readToken E (zD Z) vwCl 211 (za Z) (tysX Z)) {res : Unit × SG}   : ∀ (σ : SG) (l2 : Int32) (s0 : Int32) , m_X10_readToken_101    σ l2 s0 = some res → ∀ (H : Heap) (locs : List Loc), ws_P (zD Z) vwCl 211 (za Z) (tX Z) σ H → va_S (ws_A 211 (za Z)) s.heap H locs → ∀ (ls : Array Slot), lv_has ls 3 [(0, .ref (za Z 166)), (1, .ref (za Z 165)), (2, .int l2)] → W p l e rm_X10_readToken s m args below meth c H locs 0 0 (MQ below (xQv E (zD Z) vwCl 211 (za Z) (tX Z) (tysX Z) res) args s 0 0 (ws_A 211 (za Z))) (F0 m 101 ls [.int s0, .ref (za Z 165)]) := by
  have C0 := C
  obtain ⟨hx, hb, hr, hlocks, hml, hown, hts, hE, hJ, hK⟩ := C0
  intro σ l2 s0  h H locs hP hS ls hl
  unfold m_X10_readToken_101 at h
  obtain ⟨v14, σ15, hm16, h⟩ := bi_e h
  refine xr_calli (res := (v14, σ15)) (va_runV (As := [.int s0]) (rest := []) ⟨hx, hb, hml, hown, hts⟩ (k_X7_hasDigitAt l Z   σ s0 hm16) (cwV 1 hts gX10_readToken_X7_hasDigitAt rfl rfl rfl (by decide +kernel) ⟨Nat.le_of_ble_eq_true rfl, Nat.le_of_ble_eq_true rfl⟩) ⟨wx_blind, wr_recv hK hP (k := 165) (by decide) ((tX_Tape Z) _ _ _) rfl, fun U hU hW => ⟨rfl, wx_at hE hJ hP hK hS hU hW⟩⟩ rfl rfl hl.1 rfl (lv_room (Nat.le_of_ble_eq_true rfl)) dX10_readToken_101 ⟨Nat.le_of_ble_eq_true rfl, Nat.le_of_ble_eq_true rfl⟩) hS (fun H locs hP hS => ?_)
  have hP : ws_P (zD Z) vwCl 211 (za Z) (tX Z) σ15 H := hP
  refine lv_if_eq (tgt := 116) hx hb dX10_readToken_104 (by decide) (fun q17 => ?_) (fun q17 => ?_)
  · have h := if_p h q17
    refine lv_aload_n hx hb dX10_readToken_116 rfl (lv_at hl 0 rfl) ?_
    refine lv_aload_n hx hb dX10_readToken_117 rfl (lv_at hl 1 rfl) ?_
    refine wr_get (C := RX7) (T := TX7) (N := 2) hx hb hts (in_X10_readToken_X7) hown hK hP (k := 165) (by decide) ((tX_Tape Z) _ _ _) rfl 0 (by decide) (hts (.fieldLink RX10 69 "TuneSearch$Tape" "bytes" "[I") (by decide +kernel)) (fun _ h9 => h9) rfl dX10_readToken_118 ?_
    refine lv_aload_n hx hb dX10_readToken_121 rfl (lv_at hl 0 rfl) ?_
    refine wr_get (C := RX10) (T := TX10) (N := 9) hx hb hts (in_X10_readToken_X10) hown hK hP (k := 166) (by decide) ((tX_WordReader Z) _ _ _) rfl 3 (by decide) (hts (.fieldLink RX10 22 "TuneSearch$WordReader" "next" "I") (by decide +kernel)) (fun _ h9 => h9) rfl dX10_readToken_122 ?_
    obtain ⟨b18, h⟩ := gB_e h
    refine wr_iald hx hb hK hP (k := 19) (by decide) 0 ((tX_I Z 19 (by decide)) _ _ _) rfl b18 dX10_readToken_125 ?_
    obtain ⟨v19, σ20, hm21, h⟩ := bi_e h
    refine xr_calli (res := (v19, σ20)) (va_runS (As := [.int (σ15.1 19 (σ15.1 166 3).toNatClampNeg)]) (rest := [.ref (za Z 166)]) ⟨hx, hb, hml, hown, hts⟩ (k_X10_markOrNone l Z   σ15 (σ15.1 19 (σ15.1 166 3).toNatClampNeg) hm21) (va_cwS 1 hts gX10_readToken_X10_markOrNone rfl rfl rfl (by decide +kernel) ⟨Nat.le_of_ble_eq_true rfl, Nat.le_of_ble_eq_true rfl⟩) ⟨wx_blind, fun U hU hW => ⟨rfl, wx_at hE hJ hP hK hS hU hW⟩⟩ rfl rfl hl.1 rfl (lv_room (Nat.le_of_ble_eq_true rfl)) dX10_readToken_126 ⟨Nat.le_of_ble_eq_true rfl, Nat.le_of_ble_eq_true rfl⟩) hS (fun H locs hP hS => ?_)
    have hP : ws_P (zD Z) vwCl 211 (za Z) (tX Z) σ20 H := hP
    refine wr_put (C := RX10) (T := TX10) (N := 9) (σ' := sI σ20 166 4 v19) (ty := .int) hx hb hts (in_X10_readToken_X10) tyX10 tyX10_ok nmX10 hown hK hP hJ hS (k := 166) (by decide) ((tX_WordReader Z) _ _ _) rfl 4 (by decide) (hts (.fieldLink RX10 44 "TuneSearch$WordReader" "token" "I") (by decide +kernel)) (fun _ h9 => h9) rfl (by decide +kernel) rfl rfl (Nat.le_of_ble_eq_true rfl) (ws_pI (tX_WordReader Z) rfl) dX10_readToken_129 (fun H locs hP hS => ?_)
    obtain ⟨σ22, e23, h⟩ := lS_e h
    rw [← e23] at hP
    refine lv_aload_n hx hb dX10_readToken_132 rfl (lv_at hl 0 rfl) ?_
    refine lv_dup hx hb dX10_readToken_133 rfl ?_
    refine wr_get (C := RX10) (T := TX10) (N := 9) hx hb hts (in_X10_readToken_X10) hown hK hP (k := 166) (by decide) ((tX_WordReader Z) _ _ _) rfl 3 (by decide) (hts (.fieldLink RX10 22 "TuneSearch$WordReader" "next" "I") (by decide +kernel)) (fun _ h9 => h9) rfl dX10_readToken_134 ?_
    refine lv_iconst (v := 1) hx hb dX10_readToken_137 (by decide) ?_
    refine lv_iadd hx hb dX10_readToken_138 ?_
    refine wr_put (C := RX10) (T := TX10) (N := 9) (σ' := sI σ22 166 3 ((σ22.1 166 3) + 1)) (ty := .int) hx hb hts (in_X10_readToken_X10) tyX10 tyX10_ok nmX10 hown hK hP hJ hS (k := 166) (by decide) ((tX_WordReader Z) _ _ _) rfl 3 (by decide) (hts (.fieldLink RX10 22 "TuneSearch$WordReader" "next" "I") (by decide +kernel)) (fun _ h9 => h9) rfl (by decide +kernel) rfl rfl (Nat.le_of_ble_eq_true rfl) (ws_pI (tX_WordReader Z) rfl) dX10_readToken_139 (fun H locs hP hS => ?_)
    obtain ⟨σ24, e25, h⟩ := lS_e h
    rw [← e25] at hP
    exact xr_vret hx hb hr hlocks hE hJ hK hP hS h dX10_readToken_142
  · have h := if_n h q17
    refine lv_aload_n hx hb dX10_readToken_107 rfl (lv_at hl 0 rfl) ?_
    refine lv_aload_n hx hb dX10_readToken_108 rfl (lv_at hl 1 rfl) ?_
    refine lv_iload_n hx hb dX10_readToken_109 rfl (lv_at hl 2 rfl) ?_
    obtain ⟨v26, σ27, hm28, h⟩ := bi_e h
    refine xr_callv (res := (v26, σ27)) (va_runV (As := [.ref (za Z 165), .int l2]) (rest := []) ⟨hx, hb, hml, hown, hts⟩ (k_X10_readNumber l Z   σ15 l2 hm28) (cwV 2 hts gX10_readToken_X10_readNumber rfl rfl rfl (by decide +kernel) ⟨Nat.le_of_ble_eq_true rfl, Nat.le_of_ble_eq_true rfl⟩) ⟨wx_blind, wr_recv hK hP (k := 166) (by decide) ((tX_WordReader Z) _ _ _) rfl, fun U hU hW => ⟨rfl, wx_at hE hJ hP hK hS hU hW⟩⟩ rfl rfl hl.1 rfl (lv_room (Nat.le_of_ble_eq_true rfl)) dX10_readToken_110 ⟨Nat.le_of_ble_eq_true rfl, Nat.le_of_ble_eq_true rfl⟩) hS (fun H locs hP hS => ?_)
    have hP : ws_P (zD Z) vwCl 211 (za Z) (tX Z) σ27 H := hP
    refine lv_goto (tgt := 142) hx hb dX10_readToken_113 (by decide) ?_
    exact xr_vret hx hb hr hlocks hE hJ hK hP hS h dX10_readToken_142
def m_X10_readToken_82    (σ : SG) (s0 : Int32) : Option (Unit × SG) :=
  if s0 = 0 then (m_X10_readToken_101    σ s0 (σ.1 166 3)) else (m_X10_readToken_101    σ s0 ((σ.1 166 3) + 1))
set_option maxHeartbeats 4000000 in
set_option maxRecDepth 100000 in
theorem kb_X10_readToken_82 {p : Program} {l : Launch} {e : Env} {s : State} {m : MethodId} {args : Array Value} {below : List Frame} {meth : Method} {c : Code} {E : EF} (Z : ZT)    (C : cy p s m args meth c cX10_readToken none 3 RX10 wsX10_readToken E (zD Z) vwCl 211 (za Z) (tysX Z)) {res : Unit × SG}   : ∀ (σ : SG) (s0 : Int32) , m_X10_readToken_82    σ s0 = some res → ∀ (H : Heap) (locs : List Loc), ws_P (zD Z) vwCl 211 (za Z) (tX Z) σ H → va_S (ws_A 211 (za Z)) s.heap H locs → ∀ (ls : Array Slot), lv_has ls 3 [(0, .ref (za Z 166)), (1, .ref (za Z 165))] → W p l e rm_X10_readToken s m args below meth c H locs 0 0 (MQ below (xQv E (zD Z) vwCl 211 (za Z) (tX Z) (tysX Z) res) args s 0 0 (ws_A 211 (za Z))) (F0 m 82 ls [.int s0]) := by
  have C0 := C
  obtain ⟨hx, hb, hr, hlocks, hml, hown, hts, hE, hJ, hK⟩ := C0
  intro σ s0  h H locs hP hS ls hl
  unfold m_X10_readToken_82 at h
  refine lv_istore_n (lv' := [(2, .int s0), (0, .ref (za Z 166)), (1, .ref (za Z 165))]) hx hb dX10_readToken_82 rfl hl (by decide) rfl (fun ls hl => ?_)
  refine lv_aload_n hx hb dX10_readToken_83 rfl (lv_at hl 2 rfl) ?_
  refine lv_iload_n hx hb dX10_readToken_84 rfl (lv_at hl 0 rfl) ?_
  refine lv_if_eq (tgt := 97) hx hb dX10_readToken_85 (by decide) (fun q13 => ?_) (fun q13 => ?_)
  · have h := if_p h q13
    refine lv_aload_n hx hb dX10_readToken_97 rfl (lv_at hl 1 rfl) ?_
    refine wr_get (C := RX10) (T := TX10) (N := 9) hx hb hts (in_X10_readToken_X10) hown hK hP (k := 166) (by decide) ((tX_WordReader Z) _ _ _) rfl 3 (by decide) (hts (.fieldLink RX10 22 "TuneSearch$WordReader" "next" "I") (by decide +kernel)) (fun _ h9 => h9) rfl dX10_readToken_98 ?_
    exact kb_X10_readToken_101 Z    C   σ s0 (σ.1 166 3) h H locs hP hS ls (lv_sub hl [1, 2, 0] rfl)
  · have h := if_n h q13
    refine lv_aload_n hx hb dX10_readToken_88 rfl (lv_at hl 1 rfl) ?_
    refine wr_get (C := RX10) (T := TX10) (N := 9) hx hb hts (in_X10_readToken_X10) hown hK hP (k := 166) (by decide) ((tX_WordReader Z) _ _ _) rfl 3 (by decide) (hts (.fieldLink RX10 22 "TuneSearch$WordReader" "next" "I") (by decide +kernel)) (fun _ h9 => h9) rfl dX10_readToken_89 ?_
    refine lv_iconst (v := 1) hx hb dX10_readToken_92 (by decide) ?_
    refine lv_iadd hx hb dX10_readToken_93 ?_
    refine lv_goto (tgt := 101) hx hb dX10_readToken_94 (by decide) ?_
    exact kb_X10_readToken_101 Z    C   σ s0 ((σ.1 166 3) + 1) h H locs hP hS ls (lv_sub hl [1, 2, 0] rfl)
def m_X10_readToken_38    (σ : SG)  : Option (Unit × SG) :=
  lS (sI σ 166 0 (σ.1 166 3)) (fun σ6 => if (σ6.1 166 3) < (σ6.1 165 1) then (gB (inB (σ6.1 166 3) 160) (if ¬ (σ6.1 19 (σ6.1 166 3).toNatClampNeg) = 45 then (m_X10_readToken_82    σ6 0) else (m_X10_readToken_82    σ6 1))) else (lS (sI σ6 166 4 0) (fun σ11 => some ((), σ11))))
set_option maxHeartbeats 4000000 in
set_option maxRecDepth 100000 in
theorem kb_X10_readToken_38 {p : Program} {l : Launch} {e : Env} {s : State} {m : MethodId} {args : Array Value} {below : List Frame} {meth : Method} {c : Code} {E : EF} (Z : ZT)    (C : cy p s m args meth c cX10_readToken none 3 RX10 wsX10_readToken E (zD Z) vwCl 211 (za Z) (tysX Z)) {res : Unit × SG}   : ∀ (σ : SG)  , m_X10_readToken_38    σ  = some res → ∀ (H : Heap) (locs : List Loc), ws_P (zD Z) vwCl 211 (za Z) (tX Z) σ H → va_S (ws_A 211 (za Z)) s.heap H locs → ∀ (ls : Array Slot), lv_has ls 3 [(0, .ref (za Z 166)), (1, .ref (za Z 165))] → W p l e rm_X10_readToken s m args below meth c H locs 0 0 (MQ below (xQv E (zD Z) vwCl 211 (za Z) (tX Z) (tysX Z) res) args s 0 0 (ws_A 211 (za Z))) (F0 m 38 ls []) := by
  have C0 := C
  obtain ⟨hx, hb, hr, hlocks, hml, hown, hts, hE, hJ, hK⟩ := C0
  intro σ   h H locs hP hS ls hl
  unfold m_X10_readToken_38 at h
  refine lv_aload_n hx hb dX10_readToken_38 rfl (lv_at hl 0 rfl) ?_
  refine lv_aload_n hx hb dX10_readToken_39 rfl (lv_at hl 0 rfl) ?_
  refine wr_get (C := RX10) (T := TX10) (N := 9) hx hb hts (in_X10_readToken_X10) hown hK hP (k := 166) (by decide) ((tX_WordReader Z) _ _ _) rfl 3 (by decide) (hts (.fieldLink RX10 22 "TuneSearch$WordReader" "next" "I") (by decide +kernel)) (fun _ h9 => h9) rfl dX10_readToken_40 ?_
  refine wr_put (C := RX10) (T := TX10) (N := 9) (σ' := sI σ 166 0 (σ.1 166 3)) (ty := .int) hx hb hts (in_X10_readToken_X10) tyX10 tyX10_ok nmX10 hown hK hP hJ hS (k := 166) (by decide) ((tX_WordReader Z) _ _ _) rfl 0 (by decide) (hts (.fieldLink RX10 73 "TuneSearch$WordReader" "place" "I") (by decide +kernel)) (fun _ h9 => h9) rfl (by decide +kernel) rfl rfl (Nat.le_of_ble_eq_true rfl) (ws_pI (tX_WordReader Z) rfl) dX10_readToken_43 (fun H locs hP hS => ?_)
  obtain ⟨σ6, e7, h⟩ := lS_e h
  rw [← e7] at hP
  refine lv_aload_n hx hb dX10_readToken_46 rfl (lv_at hl 0 rfl) ?_
  refine wr_get (C := RX10) (T := TX10) (N := 9) hx hb hts (in_X10_readToken_X10) hown hK hP (k := 166) (by decide) ((tX_WordReader Z) _ _ _) rfl 3 (by decide) (hts (.fieldLink RX10 22 "TuneSearch$WordReader" "next" "I") (by decide +kernel)) (fun _ h9 => h9) rfl dX10_readToken_47 ?_
  refine lv_aload_n hx hb dX10_readToken_50 rfl (lv_at hl 1 rfl) ?_
  refine wr_get (C := RX7) (T := TX7) (N := 2) hx hb hts (in_X10_readToken_X7) hown hK hP (k := 165) (by decide) ((tX_Tape Z) _ _ _) rfl 1 (by decide) (hts (.fieldLink RX10 66 "TuneSearch$Tape" "count" "I") (by decide +kernel)) (fun _ h9 => h9) rfl dX10_readToken_51 ?_
  refine lv_icmp_lt (tgt := 63) hx hb dX10_readToken_54 (by decide) (fun q8 => ?_) (fun q8 => ?_)
  · have h := if_p h q8
    refine lv_aload_n hx hb dX10_readToken_63 rfl (lv_at hl 1 rfl) ?_
    refine wr_get (C := RX7) (T := TX7) (N := 2) hx hb hts (in_X10_readToken_X7) hown hK hP (k := 165) (by decide) ((tX_Tape Z) _ _ _) rfl 0 (by decide) (hts (.fieldLink RX10 69 "TuneSearch$Tape" "bytes" "[I") (by decide +kernel)) (fun _ h9 => h9) rfl dX10_readToken_64 ?_
    refine lv_aload_n hx hb dX10_readToken_67 rfl (lv_at hl 0 rfl) ?_
    refine wr_get (C := RX10) (T := TX10) (N := 9) hx hb hts (in_X10_readToken_X10) hown hK hP (k := 166) (by decide) ((tX_WordReader Z) _ _ _) rfl 3 (by decide) (hts (.fieldLink RX10 22 "TuneSearch$WordReader" "next" "I") (by decide +kernel)) (fun _ h9 => h9) rfl dX10_readToken_68 ?_
    obtain ⟨b9, h⟩ := gB_e h
    refine wr_iald hx hb hK hP (k := 19) (by decide) 0 ((tX_I Z 19 (by decide)) _ _ _) rfl b9 dX10_readToken_71 ?_
    refine lv_bipush (v := 45) hx hb dX10_readToken_72 (by decide) ?_
    refine lv_icmp_ne (tgt := 81) hx hb dX10_readToken_74 (by decide) (fun q10 => ?_) (fun q10 => ?_)
    · have h := if_p h q10
      refine lv_iconst (v := 0) hx hb dX10_readToken_81 (by decide) ?_
      exact kb_X10_readToken_82 Z    C   σ6 0 h H locs hP hS ls (lv_sub hl [0, 1] rfl)
    · have h := if_n h (fun z => z q10)
      refine lv_iconst (v := 1) hx hb dX10_readToken_77 (by decide) ?_
      refine lv_goto (tgt := 82) hx hb dX10_readToken_78 (by decide) ?_
      exact kb_X10_readToken_82 Z    C   σ6 1 h H locs hP hS ls (lv_sub hl [0, 1] rfl)
  · have h := if_n h q8
    refine lv_aload_n hx hb dX10_readToken_57 rfl (lv_at hl 0 rfl) ?_
    refine lv_iconst (v := 0) hx hb dX10_readToken_58 (by decide) ?_
    refine wr_put (C := RX10) (T := TX10) (N := 9) (σ' := sI σ6 166 4 0) (ty := .int) hx hb hts (in_X10_readToken_X10) tyX10 tyX10_ok nmX10 hown hK hP hJ hS (k := 166) (by decide) ((tX_WordReader Z) _ _ _) rfl 4 (by decide) (hts (.fieldLink RX10 44 "TuneSearch$WordReader" "token" "I") (by decide +kernel)) (fun _ h9 => h9) rfl (by decide +kernel) rfl rfl (Nat.le_of_ble_eq_true rfl) (ws_pI (tX_WordReader Z) rfl) dX10_readToken_59 (fun H locs hP hS => ?_)
    obtain ⟨σ11, e12, h⟩ := lS_e h
    rw [← e12] at hP
    exact xr_vret hx hb hr hlocks hE hJ hK hP hS h dX10_readToken_62
def m_X10_readToken_0_s    (c0 : SG → Option (Unit × SG)) (σ : SG)  : Option (Unit × SG) :=
  if (σ.1 165 1) ≤ (σ.1 166 3) then (m_X10_readToken_38    σ ) else (gB (inB (σ.1 166 3) 160) (if ¬ (σ.1 19 (σ.1 166 3).toNatClampNeg) = 32 then (m_X10_readToken_38    σ ) else (lS (sI σ 166 3 ((σ.1 166 3) + 1)) (fun σ4 => c0 σ4 ))))
def m_X10_readToken_0    : Nat → SG → Option (Unit × SG)
  | 0, _ => none
  | n + 1, σ => m_X10_readToken_0_s    (m_X10_readToken_0    n) σ 
set_option maxHeartbeats 4000000 in
set_option maxRecDepth 100000 in
theorem kb_X10_readToken_0 {p : Program} {l : Launch} {e : Env} {s : State} {m : MethodId} {args : Array Value} {below : List Frame} {meth : Method} {c : Code} {E : EF} (Z : ZT)    (C : cy p s m args meth c cX10_readToken none 3 RX10 wsX10_readToken E (zD Z) vwCl 211 (za Z) (tysX Z)) {res : Unit × SG}   : ∀ (n : Nat) (σ : SG)  , m_X10_readToken_0    n σ  = some res → ∀ (H : Heap) (locs : List Loc), ws_P (zD Z) vwCl 211 (za Z) (tX Z) σ H → va_S (ws_A 211 (za Z)) s.heap H locs → ∀ (ls : Array Slot), lv_has ls 3 [(0, .ref (za Z 166)), (1, .ref (za Z 165))] → W p l e rm_X10_readToken s m args below meth c H locs 0 0 (MQ below (xQv E (zD Z) vwCl 211 (za Z) (tX Z) (tysX Z) res) args s 0 0 (ws_A 211 (za Z))) (F0 m 0 ls []) := by
  have C0 := C
  obtain ⟨hx, hb, hr, hlocks, hml, hown, hts, hE, hJ, hK⟩ := C0
  intro n
  induction n with
  | zero =>
    intro σ   h
    cases h
  | succ n ih =>
    intro σ   h H locs hP hS ls hl
    have hc0 : ∀ (σ : SG)  , m_X10_readToken_0    n σ  = some res → ∀ (H : Heap) (locs : List Loc), ws_P (zD Z) vwCl 211 (za Z) (tX Z) σ H → va_S (ws_A 211 (za Z)) s.heap H locs → ∀ (ls : Array Slot), lv_has ls 3 [(0, .ref (za Z 166)), (1, .ref (za Z 165))] → W p l e rm_X10_readToken s m args below meth c H locs 0 0 (MQ below (xQv E (zD Z) vwCl 211 (za Z) (tX Z) (tysX Z) res) args s 0 0 (ws_A 211 (za Z))) (F0 m 0 ls []) := ih
    have h : m_X10_readToken_0_s    (m_X10_readToken_0    n) σ  = some res := h
    unfold m_X10_readToken_0_s at h
    refine lv_aload_n hx hb dX10_readToken_0 rfl (lv_at hl 0 rfl) ?_
    refine wr_get (C := RX10) (T := TX10) (N := 9) hx hb hts (in_X10_readToken_X10) hown hK hP (k := 166) (by decide) ((tX_WordReader Z) _ _ _) rfl 3 (by decide) (hts (.fieldLink RX10 22 "TuneSearch$WordReader" "next" "I") (by decide +kernel)) (fun _ h9 => h9) rfl dX10_readToken_1 ?_
    refine lv_aload_n hx hb dX10_readToken_4 rfl (lv_at hl 1 rfl) ?_
    refine wr_get (C := RX7) (T := TX7) (N := 2) hx hb hts (in_X10_readToken_X7) hown hK hP (k := 165) (by decide) ((tX_Tape Z) _ _ _) rfl 1 (by decide) (hts (.fieldLink RX10 66 "TuneSearch$Tape" "count" "I") (by decide +kernel)) (fun _ h9 => h9) rfl dX10_readToken_5 ?_
    refine lv_icmp_ge (tgt := 38) hx hb dX10_readToken_8 (by decide) (fun q1 => ?_) (fun q1 => ?_)
    · have h := if_p h q1
      exact kb_X10_readToken_38 Z    C   σ  h H locs hP hS ls (lv_sub hl [0, 1] rfl)
    · have h := if_n h q1
      refine lv_aload_n hx hb dX10_readToken_11 rfl (lv_at hl 1 rfl) ?_
      refine wr_get (C := RX7) (T := TX7) (N := 2) hx hb hts (in_X10_readToken_X7) hown hK hP (k := 165) (by decide) ((tX_Tape Z) _ _ _) rfl 0 (by decide) (hts (.fieldLink RX10 69 "TuneSearch$Tape" "bytes" "[I") (by decide +kernel)) (fun _ h9 => h9) rfl dX10_readToken_12 ?_
      refine lv_aload_n hx hb dX10_readToken_15 rfl (lv_at hl 0 rfl) ?_
      refine wr_get (C := RX10) (T := TX10) (N := 9) hx hb hts (in_X10_readToken_X10) hown hK hP (k := 166) (by decide) ((tX_WordReader Z) _ _ _) rfl 3 (by decide) (hts (.fieldLink RX10 22 "TuneSearch$WordReader" "next" "I") (by decide +kernel)) (fun _ h9 => h9) rfl dX10_readToken_16 ?_
      obtain ⟨b2, h⟩ := gB_e h
      refine wr_iald hx hb hK hP (k := 19) (by decide) 0 ((tX_I Z 19 (by decide)) _ _ _) rfl b2 dX10_readToken_19 ?_
      refine lv_bipush (v := 32) hx hb dX10_readToken_20 (by decide) ?_
      refine lv_icmp_ne (tgt := 38) hx hb dX10_readToken_22 (by decide) (fun q3 => ?_) (fun q3 => ?_)
      · have h := if_p h q3
        exact kb_X10_readToken_38 Z    C   σ  h H locs hP hS ls (lv_sub hl [0, 1] rfl)
      · have h := if_n h (fun z => z q3)
        refine lv_aload_n hx hb dX10_readToken_25 rfl (lv_at hl 0 rfl) ?_
        refine lv_dup hx hb dX10_readToken_26 rfl ?_
        refine wr_get (C := RX10) (T := TX10) (N := 9) hx hb hts (in_X10_readToken_X10) hown hK hP (k := 166) (by decide) ((tX_WordReader Z) _ _ _) rfl 3 (by decide) (hts (.fieldLink RX10 22 "TuneSearch$WordReader" "next" "I") (by decide +kernel)) (fun _ h9 => h9) rfl dX10_readToken_27 ?_
        refine lv_iconst (v := 1) hx hb dX10_readToken_30 (by decide) ?_
        refine lv_iadd hx hb dX10_readToken_31 ?_
        refine wr_put (C := RX10) (T := TX10) (N := 9) (σ' := sI σ 166 3 ((σ.1 166 3) + 1)) (ty := .int) hx hb hts (in_X10_readToken_X10) tyX10 tyX10_ok nmX10 hown hK hP hJ hS (k := 166) (by decide) ((tX_WordReader Z) _ _ _) rfl 3 (by decide) (hts (.fieldLink RX10 22 "TuneSearch$WordReader" "next" "I") (by decide +kernel)) (fun _ h9 => h9) rfl (by decide +kernel) rfl rfl (Nat.le_of_ble_eq_true rfl) (ws_pI (tX_WordReader Z) rfl) dX10_readToken_32 (fun H locs hP hS => ?_)
        obtain ⟨σ4, e5, h⟩ := lS_e h
        rw [← e5] at hP
        refine lv_goto (tgt := 0) hx hb dX10_readToken_35 (by decide) ?_
        exact hc0 σ4  h H locs hP hS ls (lv_sub hl [0, 1] rfl)
def m_X10_readToken   (σ : SG)  : Option (Unit × SG) := m_X10_readToken_0   FV σ 
set_option maxHeartbeats 4000000 in
set_option maxRecDepth 100000 in
theorem k_X10_readToken (l : Launch) {E : EF} (Z : ZT)    (σ : SG)  {res : Unit × SG} (h : m_X10_readToken   σ  = some res) : Met l yX10_readToken wsX10_readToken rm_X10_readToken (va_Pc [.ref (za Z 166), .ref (za Z 165)] (wx E (zD Z) vwCl 211 (za Z) (tX Z) (tysX Z) σ)) (xQv E (zD Z) vwCl 211 (za Z) (tX Z) (tysX Z) res) 0 0 (ws_A 211 (za Z)) := by
  refine Met.ofW (cc := cX10_readToken) (maxL := 3) (ret := none) (by decide) rfl ?_
  intro p e s m args below meth c s₁ B hml hv
  obtain ⟨rfl, hE, hJ, hP, hK⟩ := hv
  have hl := lv_entry ([.ref (za Z 166), .ref (za Z 165)]) (n := 3) (Nat.le_of_ble_eq_true rfl)
  rw [lg_entry_eq]
  generalize (lg_sl ([.ref (za Z 166), .ref (za Z 165)]) ++ List.replicate (3 - (lg_sl ([.ref (za Z 166), .ref (za Z 165)])).length) Slot.unset).toArray = ls at hl ⊢
  exact kb_X10_readToken_0 Z    ⟨B.exec, B.bytes, B.returns, B.notSynchronized, hml, findClass_of_methodNamed B.named, atoms_spec (ws := wsX10_readToken) B.pre, hE, hJ, hK⟩ FV σ  h s.heap [] hP va_S.rf ls hl
/-! TuneSearch$WordReader.tokenDue()I -/
abbrev rm_X10_tokenDue : Room := { frames := 0, cells := 0, slots := 0, locals := 0 }
theorem in_X10_tokenDue_X10 : ∀ w ∈ wsX100, w ∈ wsX10_tokenDue := by decide +kernel
def m_X10_tokenDue_0    (σ : SG)  : Option (Int32 × SG) :=
  if (σ.1 166 6) = 2 then (some (44, σ)) else (if (σ.1 166 6) = 4 then (some (93, σ)) else (some (48, σ)))
set_option maxHeartbeats 4000000 in
set_option maxRecDepth 100000 in
theorem kb_X10_tokenDue_0 {p : Program} {l : Launch} {e : Env} {s : State} {m : MethodId} {args : Array Value} {below : List Frame} {meth : Method} {c : Code} {E : EF} (Z : ZT)    (C : cy p s m args meth c cX10_tokenDue (some .int) 1 RX10 wsX10_tokenDue E (zD Z) vwCl 211 (za Z) (tysX Z)) {res : Int32 × SG}   : ∀ (σ : SG)  , m_X10_tokenDue_0    σ  = some res → ∀ (H : Heap) (locs : List Loc), ws_P (zD Z) vwCl 211 (za Z) (tX Z) σ H → va_S (ws_A 211 (za Z)) s.heap H locs → ∀ (ls : Array Slot), lv_has ls 1 [(0, .ref (za Z 166))] → W p l e rm_X10_tokenDue s m args below meth c H locs 0 0 (MQ below (xQi E (zD Z) vwCl 211 (za Z) (tX Z) (tysX Z) res) args s 0 0 (ws_A 211 (za Z))) (F0 m 0 ls []) := by
  have C0 := C
  obtain ⟨hx, hb, hr, hlocks, hml, hown, hts, hE, hJ, hK⟩ := C0
  intro σ   h H locs hP hS ls hl
  unfold m_X10_tokenDue_0 at h
  refine lv_aload_n hx hb dX10_tokenDue_0 rfl (lv_at hl 0 rfl) ?_
  refine wr_get (C := RX10) (T := TX10) (N := 9) hx hb hts (in_X10_tokenDue_X10) hown hK hP (k := 166) (by decide) ((tX_WordReader Z) _ _ _) rfl 6 (by decide) (hts (.fieldLink RX10 28 "TuneSearch$WordReader" "awaited" "I") (by decide +kernel)) (fun _ h9 => h9) rfl dX10_tokenDue_1 ?_
  by_cases q1 : (σ.1 166 6) = 2
  · have h := if_p h q1
    refine lv_lookup (off := 28) (tgt := 32) hx hb dX10_tokenDue_4 (by decide) (by first | (rw [q1]; done) | (rw [q1]; rfl)) (by decide) ?_
    refine lv_bipush (v := 44) hx hb dX10_tokenDue_32 (by decide) ?_
    exact xr_iret hx hb hr hlocks hE hJ hK hP hS h dX10_tokenDue_34
  · have h := if_n h q1
    by_cases q2 : (σ.1 166 6) = 4
    · have h := if_p h q2
      refine lv_lookup (off := 31) (tgt := 35) hx hb dX10_tokenDue_4 (by decide) (by first | (rw [q2]; done) | (rw [q2]; rfl)) (by decide) ?_
      refine lv_bipush (v := 93) hx hb dX10_tokenDue_35 (by decide) ?_
      exact xr_iret hx hb hr hlocks hE hJ hK hP hS h dX10_tokenDue_37
    · have h := if_n h q2
      refine lv_lookup (off := 34) (tgt := 38) hx hb dX10_tokenDue_4 (by decide) ((lv_osw q1 rfl).trans ((lv_osw q2 rfl).trans rfl)) (by decide) ?_
      refine lv_bipush (v := 48) hx hb dX10_tokenDue_38 (by decide) ?_
      exact xr_iret hx hb hr hlocks hE hJ hK hP hS h dX10_tokenDue_40
def m_X10_tokenDue   (σ : SG)  : Option (Int32 × SG) := m_X10_tokenDue_0   σ 
set_option maxHeartbeats 4000000 in
set_option maxRecDepth 100000 in
theorem k_X10_tokenDue (l : Launch) {E : EF} (Z : ZT)    (σ : SG)  {res : Int32 × SG} (h : m_X10_tokenDue   σ  = some res) : Met l yX10_tokenDue wsX10_tokenDue rm_X10_tokenDue (va_Pc [.ref (za Z 166)] (wx E (zD Z) vwCl 211 (za Z) (tX Z) (tysX Z) σ)) (xQi E (zD Z) vwCl 211 (za Z) (tX Z) (tysX Z) res) 0 0 (ws_A 211 (za Z)) := by
  refine Met.ofW (cc := cX10_tokenDue) (maxL := 1) (ret := (some .int)) (by decide) rfl ?_
  intro p e s m args below meth c s₁ B hml hv
  obtain ⟨rfl, hE, hJ, hP, hK⟩ := hv
  have hl := lv_entry ([.ref (za Z 166)]) (n := 1) (Nat.le_of_ble_eq_true rfl)
  rw [lg_entry_eq]
  generalize (lg_sl ([.ref (za Z 166)]) ++ List.replicate (1 - (lg_sl ([.ref (za Z 166)])).length) Slot.unset).toArray = ls at hl ⊢
  exact kb_X10_tokenDue_0 Z    ⟨B.exec, B.bytes, B.returns, B.notSynchronized, hml, findClass_of_methodNamed B.named, atoms_spec (ws := wsX10_tokenDue) B.pre, hE, hJ, hK⟩ σ  h s.heap [] hP va_S.rf ls hl
/-! TuneSearch$WordReader.takeAtom(LTuneSearch$Word;II)I -/
abbrev rm_X10_takeAtom : Room := { frames := 2, cells := 0, slots := 0, locals := 46 }
theorem in_X10_takeAtom_X2 : ∀ w ∈ wsX20, w ∈ wsX10_takeAtom := by decide +kernel
theorem in_X10_takeAtom_X10 : ∀ w ∈ wsX100, w ∈ wsX10_takeAtom := by decide +kernel
def m_X10_takeAtom_0  (r0 : Nat)  (σ : SG) (p1 : Int32) (p2 : Int32) : Option (Int32 × SG) :=
  bi (m_X9_isFull r0 σ ) (fun v1 σ2 => if v1 = 0 then (gB (inB (σ2.1 166 2) 9) (bi (m_X2_closeItem ((σ2.1 166 2).toNatClampNeg) r0 σ2 ) (fun v7 σ8 => bi (m_X9_addAtom r0 σ8 p1 p2) (fun v10 σ11 => bi (m_X5_become (3 * (σ2.1 166 2).toNatClampNeg + 2) σ11 0 v10 v10) (fun v13 σ14 => lS (sI σ14 (167 + (σ2.1 166 2).toNatClampNeg) 3 1) (fun σ16 => some (0, σ16))))))) else (some (4, σ2)))
set_option maxHeartbeats 4000000 in
set_option maxRecDepth 100000 in
theorem kb_X10_takeAtom_0 {p : Program} {l : Launch} {e : Env} {s : State} {m : MethodId} {args : Array Value} {below : List Frame} {meth : Method} {c : Code} {E : EF} (Z : ZT)  (r0 : Nat) (hr0 : r0 < 2) (C : cy p s m args meth c cX10_takeAtom (some .int) 7 RX10 wsX10_takeAtom E (zD Z) vwCl 211 (za Z) (tysX Z)) {res : Int32 × SG}   : ∀ (σ : SG) (p1 : Int32) (p2 : Int32) , m_X10_takeAtom_0  r0  σ p1 p2 = some res → ∀ (H : Heap) (locs : List Loc), ws_P (zD Z) vwCl 211 (za Z) (tX Z) σ H → va_S (ws_A 211 (za Z)) s.heap H locs → ∀ (ls : Array Slot), lv_has ls 7 [(0, .ref (za Z 166)), (1, .ref (za Z (203 + r0))), (2, .int p1), (3, .int p2)] → W p l e rm_X10_takeAtom s m args below meth c H locs 0 0 (MQ below (xQi E (zD Z) vwCl 211 (za Z) (tX Z) (tysX Z) res) args s 0 0 (ws_A 211 (za Z))) (F0 m 0 ls []) := by
  have C0 := C
  obtain ⟨hx, hb, hr, hlocks, hml, hown, hts, hE, hJ, hK⟩ := C0
  intro σ p1 p2  h H locs hP hS ls hl
  unfold m_X10_takeAtom_0 at h
  refine lv_aload_n hx hb dX10_takeAtom_0 rfl (lv_at hl 1 rfl) ?_
  obtain ⟨v1, σ2, hm3, h⟩ := bi_e h
  refine xr_calli (res := (v1, σ2)) (va_runV (As := []) (rest := []) ⟨hx, hb, hml, hown, hts⟩ (k_X9_isFull l Z r0 hr0 σ  hm3) (cwV 0 hts gX10_takeAtom_X9_isFull rfl rfl rfl (by decide +kernel) ⟨Nat.le_of_ble_eq_true rfl, Nat.le_of_ble_eq_true rfl⟩) ⟨wx_blind, wr_recv hK hP (k := (203 + r0)) (by omega) ((tX_Word Z r0 hr0) _ _ _) rfl, fun U hU hW => ⟨rfl, wx_at hE hJ hP hK hS hU hW⟩⟩ rfl rfl hl.1 rfl (lv_room (Nat.le_of_ble_eq_true rfl)) dX10_takeAtom_1 ⟨Nat.le_of_ble_eq_true rfl, Nat.le_of_ble_eq_true rfl⟩) hS (fun H locs hP hS => ?_)
  have hP : ws_P (zD Z) vwCl 211 (za Z) (tX Z) σ2 H := hP
  refine lv_if_eq (tgt := 9) hx hb dX10_takeAtom_4 (by decide) (fun q4 => ?_) (fun q4 => ?_)
  · have h := if_p h q4
    refine lv_aload_n hx hb dX10_takeAtom_9 rfl (lv_at hl 0 rfl) ?_
    refine wr_get (C := RX10) (T := TX10) (N := 9) hx hb hts (in_X10_takeAtom_X10) hown hK hP (k := 166) (by decide) ((tX_WordReader Z) _ _ _) rfl 1 (by decide) (hts (.fieldLink RX10 11 "TuneSearch$WordReader" "levels" "[LTuneSearch$Level;") (by decide +kernel)) (fun _ h9 => h9) rfl dX10_takeAtom_10 ?_
    refine lv_aload_n hx hb dX10_takeAtom_13 rfl (lv_at hl 0 rfl) ?_
    refine wr_get (C := RX10) (T := TX10) (N := 9) hx hb hts (in_X10_takeAtom_X10) hown hK hP (k := 166) (by decide) ((tX_WordReader Z) _ _ _) rfl 2 (by decide) (hts (.fieldLink RX10 25 "TuneSearch$WordReader" "depth" "I") (by decide +kernel)) (fun _ h9 => h9) rfl dX10_takeAtom_14 ?_
    obtain ⟨b5, h⟩ := gB_e h
    have hi6 := inB_lt b5
    refine wr_aald hx hb hK hP (k := 149) (by decide) 4 rfl ((tX_levels Z) _ _ _) rfl b5 (row_at hi6) dX10_takeAtom_17 ?_
    refine lv_astore (lv' := [(4, .ref (za Z (167 + (σ2.1 166 2).toNatClampNeg))), (0, .ref (za Z 166)), (1, .ref (za Z (203 + r0))), (2, .int p1), (3, .int p2)]) hx hb dX10_takeAtom_18 hl (by decide) rfl (fun ls hl => ?_)
    refine lv_aload hx hb dX10_takeAtom_20 (lv_at hl 0 rfl) ?_
    refine lv_aload_n hx hb dX10_takeAtom_22 rfl (lv_at hl 2 rfl) ?_
    obtain ⟨v7, σ8, hm9, h⟩ := bi_e h
    refine xr_callv (res := (v7, σ8)) (va_runV (As := [.ref (za Z (203 + r0))]) (rest := []) ⟨hx, hb, hml, hown, hts⟩ (k_X2_closeItem l Z ((σ2.1 166 2).toNatClampNeg) r0 hi6 hr0 σ2  hm9) (cwV 1 hts gX10_takeAtom_X2_closeItem rfl rfl rfl (by decide +kernel) ⟨Nat.le_of_ble_eq_true rfl, Nat.le_of_ble_eq_true rfl⟩) ⟨wx_blind, wr_recv hK hP (k := (167 + (σ2.1 166 2).toNatClampNeg)) (by omega) ((tX_Level Z (σ2.1 166 2).toNatClampNeg hi6) _ _ _) rfl, fun U hU hW => ⟨rfl, wx_at hE hJ hP hK hS hU hW⟩⟩ rfl rfl hl.1 rfl (lv_room (Nat.le_of_ble_eq_true rfl)) dX10_takeAtom_23 ⟨Nat.le_of_ble_eq_true rfl, Nat.le_of_ble_eq_true rfl⟩) hS (fun H locs hP hS => ?_)
    have hP : ws_P (zD Z) vwCl 211 (za Z) (tX Z) σ8 H := hP
    refine lv_aload_n hx hb dX10_takeAtom_26 rfl (lv_at hl 2 rfl) ?_
    refine lv_iload_n hx hb dX10_takeAtom_27 rfl (lv_at hl 3 rfl) ?_
    refine lv_iload_n hx hb dX10_takeAtom_28 rfl (lv_at hl 4 rfl) ?_
    obtain ⟨v10, σ11, hm12, h⟩ := bi_e h
    refine xr_calll (res := (v10, σ11)) (va_runV (As := [.int p1, .int p2]) (rest := []) ⟨hx, hb, hml, hown, hts⟩ (k_X9_addAtom l Z r0 hr0 σ8 p1 p2 hm12) (cwV 2 hts gX10_takeAtom_X9_addAtom rfl rfl rfl (by decide +kernel) ⟨Nat.le_of_ble_eq_true rfl, Nat.le_of_ble_eq_true rfl⟩) ⟨wx_blind, wr_recv hK hP (k := (203 + r0)) (by omega) ((tX_Word Z r0 hr0) _ _ _) rfl, fun U hU hW => ⟨rfl, wx_at hE hJ hP hK hS hU hW⟩⟩ rfl rfl hl.1 rfl (lv_room (Nat.le_of_ble_eq_true rfl)) dX10_takeAtom_29 ⟨Nat.le_of_ble_eq_true rfl, Nat.le_of_ble_eq_true rfl⟩) hS (fun H locs hP hS => ?_)
    have hP : ws_P (zD Z) vwCl 211 (za Z) (tX Z) σ11 H := hP
    refine lv_lstore (lv' := [(5, .long v10), (4, .ref (za Z (167 + (σ2.1 166 2).toNatClampNeg))), (0, .ref (za Z 166)), (1, .ref (za Z (203 + r0))), (2, .int p1), (3, .int p2)]) hx hb dX10_takeAtom_32 hl (by decide) rfl (fun ls hl => ?_)
    refine lv_aload hx hb dX10_takeAtom_34 (lv_at hl 1 rfl) ?_
    refine wr_get (C := RX2) (T := TX2) (N := 4) hx hb hts (in_X10_takeAtom_X2) hown hK hP (k := (167 + (σ2.1 166 2).toNatClampNeg)) (by omega) ((tX_Level Z (σ2.1 166 2).toNatClampNeg hi6) _ _ _) rfl 2 (by decide) (hts (.fieldLink RX10 133 "TuneSearch$Level" "item" "LTuneSearch$Part;") (by decide +kernel)) (fun _ h9 => h9) rfl dX10_takeAtom_36 ?_
    refine lv_iconst (v := 0) hx hb dX10_takeAtom_39 (by decide) ?_
    refine lv_lload hx hb dX10_takeAtom_40 (lv_at hl 0 rfl) ?_
    refine lv_lload hx hb dX10_takeAtom_42 (lv_at hl 0 rfl) ?_
    obtain ⟨v13, σ14, hm15, h⟩ := bi_e h
    refine xr_callv (res := (v13, σ14)) (va_runV (As := [.int 0, .long v10, .long v10]) (rest := []) ⟨hx, hb, hml, hown, hts⟩ (k_X5_become l Z (3 * (σ2.1 166 2).toNatClampNeg + 2) (by omega) σ11 0 v10 v10 hm15) (cwV 3 hts gX10_takeAtom_X5_become rfl rfl rfl (by decide +kernel) ⟨Nat.le_of_ble_eq_true rfl, Nat.le_of_ble_eq_true rfl⟩) ⟨wx_blind, wr_recv hK hP (k := (176 + (3 * (σ2.1 166 2).toNatClampNeg + 2))) (by omega) ((tX_Part Z (3 * (σ2.1 166 2).toNatClampNeg + 2) (by omega)) _ _ _) rfl, fun U hU hW => ⟨rfl, wx_at hE hJ hP hK hS hU hW⟩⟩ rfl rfl hl.1 rfl (lv_room (Nat.le_of_ble_eq_true rfl)) dX10_takeAtom_44 ⟨Nat.le_of_ble_eq_true rfl, Nat.le_of_ble_eq_true rfl⟩) hS (fun H locs hP hS => ?_)
    have hP : ws_P (zD Z) vwCl 211 (za Z) (tX Z) σ14 H := hP
    refine lv_aload hx hb dX10_takeAtom_47 (lv_at hl 1 rfl) ?_
    refine lv_iconst (v := 1) hx hb dX10_takeAtom_49 (by decide) ?_
    refine wr_put (C := RX2) (T := TX2) (N := 4) (σ' := sI σ14 (167 + (σ2.1 166 2).toNatClampNeg) 3 1) (ty := .boolean) hx hb hts (in_X10_takeAtom_X2) tyX2 tyX2_ok nmX2 hown hK hP hJ hS (k := (167 + (σ2.1 166 2).toNatClampNeg)) (by omega) ((tX_Level Z (σ2.1 166 2).toNatClampNeg hi6) _ _ _) rfl 3 (by decide) (hts (.fieldLink RX10 140 "TuneSearch$Level" "canRepeat" "Z") (by decide +kernel)) (fun _ h9 => h9) rfl (by decide +kernel) rfl rfl (Nat.le_of_ble_eq_true rfl) (ws_pI (tX_Level Z (σ2.1 166 2).toNatClampNeg hi6) rfl) dX10_takeAtom_50 (fun H locs hP hS => ?_)
    obtain ⟨σ16, e17, h⟩ := lS_e h
    rw [← e17] at hP
    refine lv_iconst (v := 0) hx hb dX10_takeAtom_53 (by decide) ?_
    exact xr_iret hx hb hr hlocks hE hJ hK hP hS h dX10_takeAtom_54
  · have h := if_n h q4
    refine lv_iconst (v := 4) hx hb dX10_takeAtom_7 (by decide) ?_
    exact xr_iret hx hb hr hlocks hE hJ hK hP hS h dX10_takeAtom_8
def m_X10_takeAtom  (r0 : Nat) (σ : SG) (p1 : Int32) (p2 : Int32) : Option (Int32 × SG) := m_X10_takeAtom_0  r0 σ p1 p2
set_option maxHeartbeats 4000000 in
set_option maxRecDepth 100000 in
theorem k_X10_takeAtom (l : Launch) {E : EF} (Z : ZT)  (r0 : Nat) (hr0 : r0 < 2) (σ : SG) (p1 : Int32) (p2 : Int32) {res : Int32 × SG} (h : m_X10_takeAtom  r0 σ p1 p2 = some res) : Met l yX10_takeAtom wsX10_takeAtom rm_X10_takeAtom (va_Pc [.ref (za Z 166), .ref (za Z (203 + r0)), .int p1, .int p2] (wx E (zD Z) vwCl 211 (za Z) (tX Z) (tysX Z) σ)) (xQi E (zD Z) vwCl 211 (za Z) (tX Z) (tysX Z) res) 0 0 (ws_A 211 (za Z)) := by
  refine Met.ofW (cc := cX10_takeAtom) (maxL := 7) (ret := (some .int)) (by decide) rfl ?_
  intro p e s m args below meth c s₁ B hml hv
  obtain ⟨rfl, hE, hJ, hP, hK⟩ := hv
  have hl := lv_entry ([.ref (za Z 166), .ref (za Z (203 + r0)), .int p1, .int p2]) (n := 7) (Nat.le_of_ble_eq_true rfl)
  rw [lg_entry_eq]
  generalize (lg_sl ([.ref (za Z 166), .ref (za Z (203 + r0)), .int p1, .int p2]) ++ List.replicate (7 - (lg_sl ([.ref (za Z 166), .ref (za Z (203 + r0)), .int p1, .int p2])).length) Slot.unset).toArray = ls at hl ⊢
  exact kb_X10_takeAtom_0 Z  r0 hr0 ⟨B.exec, B.bytes, B.returns, B.notSynchronized, hml, findClass_of_methodNamed B.named, atoms_spec (ws := wsX10_takeAtom) B.pre, hE, hJ, hK⟩ σ p1 p2 h s.heap [] hP va_S.rf ls hl
/-! TuneSearch$WordReader.takeWithinBrackets(LTuneSearch$Word;)I -/
abbrev rm_X10_takeWithinBrackets : Room := { frames := 3, cells := 0, slots := 0, locals := 72 }
theorem in_X10_takeWithinBrackets_X10 : ∀ w ∈ wsX100, w ∈ wsX10_takeWithinBrackets := by decide +kernel
def m_X10_takeWithinBrackets_0  (r0 : Nat)  (σ : SG)  : Option (Int32 × SG) :=
  bi (m_X10_tokenDue  σ ) (fun v1 σ2 => if (σ.1 166 4) = v1 then (if (σ2.1 166 6) = 1 then (lS (sI σ2 166 7 (σ2.1 166 5)) (fun σ6 => lS (sI σ6 166 6 2) (fun σ8 => some (0, σ8)))) else (if (σ2.1 166 6) = 2 then (lS (sI σ2 166 6 3) (fun σ11 => some (0, σ11))) else (if (σ2.1 166 6) = 3 then (lS (sI σ2 166 8 (σ2.1 166 5)) (fun σ14 => lS (sI σ14 166 6 4) (fun σ16 => if (σ16.1 166 7) ≤ (σ16.1 166 8) then (some (0, σ16)) else (some (3, σ16))))) else (lS (sI σ2 166 6 0) (fun σ19 => bi (m_X10_takeAtom r0 σ19 (σ19.1 166 7) (σ19.1 166 8)) (fun v21 σ22 => some (v21, σ22))))))) else (some (2, σ2)))
set_option maxHeartbeats 4000000 in
set_option maxRecDepth 100000 in
theorem kb_X10_takeWithinBrackets_0 {p : Program} {l : Launch} {e : Env} {s : State} {m : MethodId} {args : Array Value} {below : List Frame} {meth : Method} {c : Code} {E : EF} (Z : ZT)  (r0 : Nat) (hr0 : r0 < 2) (C : cy p s m args meth c cX10_takeWithinBrackets (some .int) 2 RX10 wsX10_takeWithinBrackets E (zD Z) vwCl 211 (za Z) (tysX Z)) {res : Int32 × SG}   : ∀ (σ : SG)  , m_X10_takeWithinBrackets_0  r0  σ  = some res → ∀ (H : Heap) (locs : List Loc), ws_P (zD Z) vwCl 211 (za Z) (tX Z) σ H → va_S (ws_A 211 (za Z)) s.heap H locs → ∀ (ls : Array Slot), lv_has ls 2 [(0, .ref (za Z 166)), (1, .ref (za Z (203 + r0)))] → W p l e rm_X10_takeWithinBrackets s m args below meth c H locs 0 0 (MQ below (xQi E (zD Z) vwCl 211 (za Z) (tX Z) (tysX Z) res) args s 0 0 (ws_A 211 (za Z))) (F0 m 0 ls []) := by
  have C0 := C
  obtain ⟨hx, hb, hr, hlocks, hml, hown, hts, hE, hJ, hK⟩ := C0
  intro σ   h H locs hP hS ls hl
  unfold m_X10_takeWithinBrackets_0 at h
  refine lv_aload_n hx hb dX10_takeWithinBrackets_0 rfl (lv_at hl 0 rfl) ?_
  refine wr_get (C := RX10) (T := TX10) (N := 9) hx hb hts (in_X10_takeWithinBrackets_X10) hown hK hP (k := 166) (by decide) ((tX_WordReader Z) _ _ _) rfl 4 (by decide) (hts (.fieldLink RX10 44 "TuneSearch$WordReader" "token" "I") (by decide +kernel)) (fun _ h9 => h9) rfl dX10_takeWithinBrackets_1 ?_
  refine lv_aload_n hx hb dX10_takeWithinBrackets_4 rfl (lv_at hl 0 rfl) ?_
  obtain ⟨v1, σ2, hm3, h⟩ := bi_e h
  refine xr_calli (res := (v1, σ2)) (va_runV (As := []) (rest := [.int (σ.1 166 4)]) ⟨hx, hb, hml, hown, hts⟩ (k_X10_tokenDue l Z   σ  hm3) (cwV 0 hts gX10_takeWithinBrackets_X10_tokenDue rfl rfl rfl (by decide +kernel) ⟨Nat.le_of_ble_eq_true rfl, Nat.le_of_ble_eq_true rfl⟩) ⟨wx_blind, wr_recv hK hP (k := 166) (by decide) ((tX_WordReader Z) _ _ _) rfl, fun U hU hW => ⟨rfl, wx_at hE hJ hP hK hS hU hW⟩⟩ rfl rfl hl.1 rfl (lv_room (Nat.le_of_ble_eq_true rfl)) dX10_takeWithinBrackets_5 ⟨Nat.le_of_ble_eq_true rfl, Nat.le_of_ble_eq_true rfl⟩) hS (fun H locs hP hS => ?_)
  have hP : ws_P (zD Z) vwCl 211 (za Z) (tX Z) σ2 H := hP
  refine lv_icmp_eq (tgt := 13) hx hb dX10_takeWithinBrackets_8 (by decide) (fun q4 => ?_) (fun q4 => ?_)
  · have h := if_p h q4
    refine lv_aload_n hx hb dX10_takeWithinBrackets_13 rfl (lv_at hl 0 rfl) ?_
    refine wr_get (C := RX10) (T := TX10) (N := 9) hx hb hts (in_X10_takeWithinBrackets_X10) hown hK hP (k := 166) (by decide) ((tX_WordReader Z) _ _ _) rfl 6 (by decide) (hts (.fieldLink RX10 28 "TuneSearch$WordReader" "awaited" "I") (by decide +kernel)) (fun _ h9 => h9) rfl dX10_takeWithinBrackets_14 ?_
    by_cases q5 : (σ2.1 166 6) = 1
    · have h := if_p h q5
      refine lv_tableIn (tgt := 44) hx hb dX10_takeWithinBrackets_17 (by rw [q5]; decide) (by rw [q5]; decide) (by rw [q5]; rfl) (by decide) ?_
      refine lv_aload_n hx hb dX10_takeWithinBrackets_44 rfl (lv_at hl 0 rfl) ?_
      refine lv_aload_n hx hb dX10_takeWithinBrackets_45 rfl (lv_at hl 0 rfl) ?_
      refine wr_get (C := RX10) (T := TX10) (N := 9) hx hb hts (in_X10_takeWithinBrackets_X10) hown hK hP (k := 166) (by decide) ((tX_WordReader Z) _ _ _) rfl 5 (by decide) (hts (.fieldLink RX10 88 "TuneSearch$WordReader" "number" "I") (by decide +kernel)) (fun _ h9 => h9) rfl dX10_takeWithinBrackets_46 ?_
      refine wr_put (C := RX10) (T := TX10) (N := 9) (σ' := sI σ2 166 7 (σ2.1 166 5)) (ty := .int) hx hb hts (in_X10_takeWithinBrackets_X10) tyX10 tyX10_ok nmX10 hown hK hP hJ hS (k := 166) (by decide) ((tX_WordReader Z) _ _ _) rfl 7 (by decide) (hts (.fieldLink RX10 116 "TuneSearch$WordReader" "low" "I") (by decide +kernel)) (fun _ h9 => h9) rfl (by decide +kernel) rfl rfl (Nat.le_of_ble_eq_true rfl) (ws_pI (tX_WordReader Z) rfl) dX10_takeWithinBrackets_49 (fun H locs hP hS => ?_)
      obtain ⟨σ6, e7, h⟩ := lS_e h
      rw [← e7] at hP
      refine lv_aload_n hx hb dX10_takeWithinBrackets_52 rfl (lv_at hl 0 rfl) ?_
      refine lv_iconst (v := 2) hx hb dX10_takeWithinBrackets_53 (by decide) ?_
      refine wr_put (C := RX10) (T := TX10) (N := 9) (σ' := sI σ6 166 6 2) (ty := .int) hx hb hts (in_X10_takeWithinBrackets_X10) tyX10 tyX10_ok nmX10 hown hK hP hJ hS (k := 166) (by decide) ((tX_WordReader Z) _ _ _) rfl 6 (by decide) (hts (.fieldLink RX10 28 "TuneSearch$WordReader" "awaited" "I") (by decide +kernel)) (fun _ h9 => h9) rfl (by decide +kernel) rfl rfl (Nat.le_of_ble_eq_true rfl) (ws_pI (tX_WordReader Z) rfl) dX10_takeWithinBrackets_54 (fun H locs hP hS => ?_)
      obtain ⟨σ8, e9, h⟩ := lS_e h
      rw [← e9] at hP
      refine lv_iconst (v := 0) hx hb dX10_takeWithinBrackets_57 (by decide) ?_
      exact xr_iret hx hb hr hlocks hE hJ hK hP hS h dX10_takeWithinBrackets_58
    · have h := if_n h q5
      by_cases q10 : (σ2.1 166 6) = 2
      · have h := if_p h q10
        refine lv_tableIn (tgt := 59) hx hb dX10_takeWithinBrackets_17 (by rw [q10]; decide) (by rw [q10]; decide) (by rw [q10]; rfl) (by decide) ?_
        refine lv_aload_n hx hb dX10_takeWithinBrackets_59 rfl (lv_at hl 0 rfl) ?_
        refine lv_iconst (v := 3) hx hb dX10_takeWithinBrackets_60 (by decide) ?_
        refine wr_put (C := RX10) (T := TX10) (N := 9) (σ' := sI σ2 166 6 3) (ty := .int) hx hb hts (in_X10_takeWithinBrackets_X10) tyX10 tyX10_ok nmX10 hown hK hP hJ hS (k := 166) (by decide) ((tX_WordReader Z) _ _ _) rfl 6 (by decide) (hts (.fieldLink RX10 28 "TuneSearch$WordReader" "awaited" "I") (by decide +kernel)) (fun _ h9 => h9) rfl (by decide +kernel) rfl rfl (Nat.le_of_ble_eq_true rfl) (ws_pI (tX_WordReader Z) rfl) dX10_takeWithinBrackets_61 (fun H locs hP hS => ?_)
        obtain ⟨σ11, e12, h⟩ := lS_e h
        rw [← e12] at hP
        refine lv_iconst (v := 0) hx hb dX10_takeWithinBrackets_64 (by decide) ?_
        exact xr_iret hx hb hr hlocks hE hJ hK hP hS h dX10_takeWithinBrackets_65
      · have h := if_n h q10
        by_cases q13 : (σ2.1 166 6) = 3
        · have h := if_p h q13
          refine lv_tableIn (tgt := 66) hx hb dX10_takeWithinBrackets_17 (by rw [q13]; decide) (by rw [q13]; decide) (by rw [q13]; rfl) (by decide) ?_
          refine lv_aload_n hx hb dX10_takeWithinBrackets_66 rfl (lv_at hl 0 rfl) ?_
          refine lv_aload_n hx hb dX10_takeWithinBrackets_67 rfl (lv_at hl 0 rfl) ?_
          refine wr_get (C := RX10) (T := TX10) (N := 9) hx hb hts (in_X10_takeWithinBrackets_X10) hown hK hP (k := 166) (by decide) ((tX_WordReader Z) _ _ _) rfl 5 (by decide) (hts (.fieldLink RX10 88 "TuneSearch$WordReader" "number" "I") (by decide +kernel)) (fun _ h9 => h9) rfl dX10_takeWithinBrackets_68 ?_
          refine wr_put (C := RX10) (T := TX10) (N := 9) (σ' := sI σ2 166 8 (σ2.1 166 5)) (ty := .int) hx hb hts (in_X10_takeWithinBrackets_X10) tyX10 tyX10_ok nmX10 hown hK hP hJ hS (k := 166) (by decide) ((tX_WordReader Z) _ _ _) rfl 8 (by decide) (hts (.fieldLink RX10 119 "TuneSearch$WordReader" "high" "I") (by decide +kernel)) (fun _ h9 => h9) rfl (by decide +kernel) rfl rfl (Nat.le_of_ble_eq_true rfl) (ws_pI (tX_WordReader Z) rfl) dX10_takeWithinBrackets_71 (fun H locs hP hS => ?_)
          obtain ⟨σ14, e15, h⟩ := lS_e h
          rw [← e15] at hP
          refine lv_aload_n hx hb dX10_takeWithinBrackets_74 rfl (lv_at hl 0 rfl) ?_
          refine lv_iconst (v := 4) hx hb dX10_takeWithinBrackets_75 (by decide) ?_
          refine wr_put (C := RX10) (T := TX10) (N := 9) (σ' := sI σ14 166 6 4) (ty := .int) hx hb hts (in_X10_takeWithinBrackets_X10) tyX10 tyX10_ok nmX10 hown hK hP hJ hS (k := 166) (by decide) ((tX_WordReader Z) _ _ _) rfl 6 (by decide) (hts (.fieldLink RX10 28 "TuneSearch$WordReader" "awaited" "I") (by decide +kernel)) (fun _ h9 => h9) rfl (by decide +kernel) rfl rfl (Nat.le_of_ble_eq_true rfl) (ws_pI (tX_WordReader Z) rfl) dX10_takeWithinBrackets_76 (fun H locs hP hS => ?_)
          obtain ⟨σ16, e17, h⟩ := lS_e h
          rw [← e17] at hP
          refine lv_aload_n hx hb dX10_takeWithinBrackets_79 rfl (lv_at hl 0 rfl) ?_
          refine wr_get (C := RX10) (T := TX10) (N := 9) hx hb hts (in_X10_takeWithinBrackets_X10) hown hK hP (k := 166) (by decide) ((tX_WordReader Z) _ _ _) rfl 8 (by decide) (hts (.fieldLink RX10 119 "TuneSearch$WordReader" "high" "I") (by decide +kernel)) (fun _ h9 => h9) rfl dX10_takeWithinBrackets_80 ?_
          refine lv_aload_n hx hb dX10_takeWithinBrackets_83 rfl (lv_at hl 0 rfl) ?_
          refine wr_get (C := RX10) (T := TX10) (N := 9) hx hb hts (in_X10_takeWithinBrackets_X10) hown hK hP (k := 166) (by decide) ((tX_WordReader Z) _ _ _) rfl 7 (by decide) (hts (.fieldLink RX10 116 "TuneSearch$WordReader" "low" "I") (by decide +kernel)) (fun _ h9 => h9) rfl dX10_takeWithinBrackets_84 ?_
          refine lv_icmp_ge (tgt := 94) hx hb dX10_takeWithinBrackets_87 (by decide) (fun q18 => ?_) (fun q18 => ?_)
          · have h := if_p h q18
            refine lv_iconst (v := 0) hx hb dX10_takeWithinBrackets_94 (by decide) ?_
            exact xr_iret hx hb hr hlocks hE hJ hK hP hS h dX10_takeWithinBrackets_95
          · have h := if_n h q18
            refine lv_iconst (v := 3) hx hb dX10_takeWithinBrackets_90 (by decide) ?_
            refine lv_goto (tgt := 95) hx hb dX10_takeWithinBrackets_91 (by decide) ?_
            exact xr_iret hx hb hr hlocks hE hJ hK hP hS h dX10_takeWithinBrackets_95
        · have h := if_n h q13
          have z24 : ((σ2.1 166 6) : Int32).toInt < 1 ∨ 3 < ((σ2.1 166 6) : Int32).toInt := by
            rcases Classical.em (((σ2.1 166 6) : Int32).toInt < 1 ∨ 3 < ((σ2.1 166 6) : Int32).toInt) with z | z
            · exact z
            · exfalso
              have z2 : ((σ2.1 166 6) : Int32).toInt = 1 ∨ ((σ2.1 166 6) : Int32).toInt = 2 ∨ ((σ2.1 166 6) : Int32).toInt = 3 := by omega
              rcases z2 with z2 | z2 | z2
              · exact q5 (Int32.toInt_inj.mp (z2.trans (by decide)))
              · exact q10 (Int32.toInt_inj.mp (z2.trans (by decide)))
              · exact q13 (Int32.toInt_inj.mp (z2.trans (by decide)))
          refine lv_tableOut (tgt := 96) hx hb dX10_takeWithinBrackets_17 z24 (by decide) ?_
          refine lv_aload_n hx hb dX10_takeWithinBrackets_96 rfl (lv_at hl 0 rfl) ?_
          refine lv_iconst (v := 0) hx hb dX10_takeWithinBrackets_97 (by decide) ?_
          refine wr_put (C := RX10) (T := TX10) (N := 9) (σ' := sI σ2 166 6 0) (ty := .int) hx hb hts (in_X10_takeWithinBrackets_X10) tyX10 tyX10_ok nmX10 hown hK hP hJ hS (k := 166) (by decide) ((tX_WordReader Z) _ _ _) rfl 6 (by decide) (hts (.fieldLink RX10 28 "TuneSearch$WordReader" "awaited" "I") (by decide +kernel)) (fun _ h9 => h9) rfl (by decide +kernel) rfl rfl (Nat.le_of_ble_eq_true rfl) (ws_pI (tX_WordReader Z) rfl) dX10_takeWithinBrackets_98 (fun H locs hP hS => ?_)
          obtain ⟨σ19, e20, h⟩ := lS_e h
          rw [← e20] at hP
          refine lv_aload_n hx hb dX10_takeWithinBrackets_101 rfl (lv_at hl 0 rfl) ?_
          refine lv_aload_n hx hb dX10_takeWithinBrackets_102 rfl (lv_at hl 1 rfl) ?_
          refine lv_aload_n hx hb dX10_takeWithinBrackets_103 rfl (lv_at hl 0 rfl) ?_
          refine wr_get (C := RX10) (T := TX10) (N := 9) hx hb hts (in_X10_takeWithinBrackets_X10) hown hK hP (k := 166) (by decide) ((tX_WordReader Z) _ _ _) rfl 7 (by decide) (hts (.fieldLink RX10 116 "TuneSearch$WordReader" "low" "I") (by decide +kernel)) (fun _ h9 => h9) rfl dX10_takeWithinBrackets_104 ?_
          refine lv_aload_n hx hb dX10_takeWithinBrackets_107 rfl (lv_at hl 0 rfl) ?_
          refine wr_get (C := RX10) (T := TX10) (N := 9) hx hb hts (in_X10_takeWithinBrackets_X10) hown hK hP (k := 166) (by decide) ((tX_WordReader Z) _ _ _) rfl 8 (by decide) (hts (.fieldLink RX10 119 "TuneSearch$WordReader" "high" "I") (by decide +kernel)) (fun _ h9 => h9) rfl dX10_takeWithinBrackets_108 ?_
          obtain ⟨v21, σ22, hm23, h⟩ := bi_e h
          refine xr_calli (res := (v21, σ22)) (va_runV (As := [.ref (za Z (203 + r0)), .int (σ19.1 166 7), .int (σ19.1 166 8)]) (rest := []) ⟨hx, hb, hml, hown, hts⟩ (k_X10_takeAtom l Z r0 hr0 σ19 (σ19.1 166 7) (σ19.1 166 8) hm23) (cwV 3 hts gX10_takeWithinBrackets_X10_takeAtom rfl rfl rfl (by decide +kernel) ⟨Nat.le_of_ble_eq_true rfl, Nat.le_of_ble_eq_true rfl⟩) ⟨wx_blind, wr_recv hK hP (k := 166) (by decide) ((tX_WordReader Z) _ _ _) rfl, fun U hU hW => ⟨rfl, wx_at hE hJ hP hK hS hU hW⟩⟩ rfl rfl hl.1 rfl (lv_room (Nat.le_of_ble_eq_true rfl)) dX10_takeWithinBrackets_111 ⟨Nat.le_of_ble_eq_true rfl, Nat.le_of_ble_eq_true rfl⟩) hS (fun H locs hP hS => ?_)
          have hP : ws_P (zD Z) vwCl 211 (za Z) (tX Z) σ22 H := hP
          exact xr_iret hx hb hr hlocks hE hJ hK hP hS h dX10_takeWithinBrackets_114
  · have h := if_n h q4
    refine lv_iconst (v := 2) hx hb dX10_takeWithinBrackets_11 (by decide) ?_
    exact xr_iret hx hb hr hlocks hE hJ hK hP hS h dX10_takeWithinBrackets_12
def m_X10_takeWithinBrackets  (r0 : Nat) (σ : SG)  : Option (Int32 × SG) := m_X10_takeWithinBrackets_0  r0 σ 
set_option maxHeartbeats 4000000 in
set_option maxRecDepth 100000 in
theorem k_X10_takeWithinBrackets (l : Launch) {E : EF} (Z : ZT)  (r0 : Nat) (hr0 : r0 < 2) (σ : SG)  {res : Int32 × SG} (h : m_X10_takeWithinBrackets  r0 σ  = some res) : Met l yX10_takeWithinBrackets wsX10_takeWithinBrackets rm_X10_takeWithinBrackets (va_Pc [.ref (za Z 166), .ref (za Z (203 + r0))] (wx E (zD Z) vwCl 211 (za Z) (tX Z) (tysX Z) σ)) (xQi E (zD Z) vwCl 211 (za Z) (tX Z) (tysX Z) res) 0 0 (ws_A 211 (za Z)) := by
  refine Met.ofW (cc := cX10_takeWithinBrackets) (maxL := 2) (ret := (some .int)) (by decide) rfl ?_
  intro p e s m args below meth c s₁ B hml hv
  obtain ⟨rfl, hE, hJ, hP, hK⟩ := hv
  have hl := lv_entry ([.ref (za Z 166), .ref (za Z (203 + r0))]) (n := 2) (Nat.le_of_ble_eq_true rfl)
  rw [lg_entry_eq]
  generalize (lg_sl ([.ref (za Z 166), .ref (za Z (203 + r0))]) ++ List.replicate (2 - (lg_sl ([.ref (za Z 166), .ref (za Z (203 + r0))])).length) Slot.unset).toArray = ls at hl ⊢
  exact kb_X10_takeWithinBrackets_0 Z  r0 hr0 ⟨B.exec, B.bytes, B.returns, B.notSynchronized, hml, findClass_of_methodNamed B.named, atoms_spec (ws := wsX10_takeWithinBrackets) B.pre, hE, hJ, hK⟩ σ  h s.heap [] hP va_S.rf ls hl
/-! TuneSearch$WordReader.openBrackets(LTuneSearch$Word;)I -/
abbrev rm_X10_openBrackets : Room := { frames := 1, cells := 0, slots := 0, locals := 20 }
theorem in_X10_openBrackets_X10 : ∀ w ∈ wsX100, w ∈ wsX10_openBrackets := by decide +kernel
def m_X10_openBrackets_0  (r0 : Nat)  (σ : SG)  : Option (Int32 × SG) :=
  bi (m_X9_isFull r0 σ ) (fun v1 σ2 => if v1 = 0 then (lS (sI σ2 166 6 1) (fun σ5 => some (0, σ5))) else (some (4, σ2)))
set_option maxHeartbeats 4000000 in
set_option maxRecDepth 100000 in
theorem kb_X10_openBrackets_0 {p : Program} {l : Launch} {e : Env} {s : State} {m : MethodId} {args : Array Value} {below : List Frame} {meth : Method} {c : Code} {E : EF} (Z : ZT)  (r0 : Nat) (hr0 : r0 < 2) (C : cy p s m args meth c cX10_openBrackets (some .int) 2 RX10 wsX10_openBrackets E (zD Z) vwCl 211 (za Z) (tysX Z)) {res : Int32 × SG}   : ∀ (σ : SG)  , m_X10_openBrackets_0  r0  σ  = some res → ∀ (H : Heap) (locs : List Loc), ws_P (zD Z) vwCl 211 (za Z) (tX Z) σ H → va_S (ws_A 211 (za Z)) s.heap H locs → ∀ (ls : Array Slot), lv_has ls 2 [(0, .ref (za Z 166)), (1, .ref (za Z (203 + r0)))] → W p l e rm_X10_openBrackets s m args below meth c H locs 0 0 (MQ below (xQi E (zD Z) vwCl 211 (za Z) (tX Z) (tysX Z) res) args s 0 0 (ws_A 211 (za Z))) (F0 m 0 ls []) := by
  have C0 := C
  obtain ⟨hx, hb, hr, hlocks, hml, hown, hts, hE, hJ, hK⟩ := C0
  intro σ   h H locs hP hS ls hl
  unfold m_X10_openBrackets_0 at h
  refine lv_aload_n hx hb dX10_openBrackets_0 rfl (lv_at hl 1 rfl) ?_
  obtain ⟨v1, σ2, hm3, h⟩ := bi_e h
  refine xr_calli (res := (v1, σ2)) (va_runV (As := []) (rest := []) ⟨hx, hb, hml, hown, hts⟩ (k_X9_isFull l Z r0 hr0 σ  hm3) (cwV 0 hts gX10_openBrackets_X9_isFull rfl rfl rfl (by decide +kernel) ⟨Nat.le_of_ble_eq_true rfl, Nat.le_of_ble_eq_true rfl⟩) ⟨wx_blind, wr_recv hK hP (k := (203 + r0)) (by omega) ((tX_Word Z r0 hr0) _ _ _) rfl, fun U hU hW => ⟨rfl, wx_at hE hJ hP hK hS hU hW⟩⟩ rfl rfl hl.1 rfl (lv_room (Nat.le_of_ble_eq_true rfl)) dX10_openBrackets_1 ⟨Nat.le_of_ble_eq_true rfl, Nat.le_of_ble_eq_true rfl⟩) hS (fun H locs hP hS => ?_)
  have hP : ws_P (zD Z) vwCl 211 (za Z) (tX Z) σ2 H := hP
  refine lv_if_eq (tgt := 9) hx hb dX10_openBrackets_4 (by decide) (fun q4 => ?_) (fun q4 => ?_)
  · have h := if_p h q4
    refine lv_aload_n hx hb dX10_openBrackets_9 rfl (lv_at hl 0 rfl) ?_
    refine lv_iconst (v := 1) hx hb dX10_openBrackets_10 (by decide) ?_
    refine wr_put (C := RX10) (T := TX10) (N := 9) (σ' := sI σ2 166 6 1) (ty := .int) hx hb hts (in_X10_openBrackets_X10) tyX10 tyX10_ok nmX10 hown hK hP hJ hS (k := 166) (by decide) ((tX_WordReader Z) _ _ _) rfl 6 (by decide) (hts (.fieldLink RX10 28 "TuneSearch$WordReader" "awaited" "I") (by decide +kernel)) (fun _ h9 => h9) rfl (by decide +kernel) rfl rfl (Nat.le_of_ble_eq_true rfl) (ws_pI (tX_WordReader Z) rfl) dX10_openBrackets_11 (fun H locs hP hS => ?_)
    obtain ⟨σ5, e6, h⟩ := lS_e h
    rw [← e6] at hP
    refine lv_iconst (v := 0) hx hb dX10_openBrackets_14 (by decide) ?_
    exact xr_iret hx hb hr hlocks hE hJ hK hP hS h dX10_openBrackets_15
  · have h := if_n h q4
    refine lv_iconst (v := 4) hx hb dX10_openBrackets_7 (by decide) ?_
    exact xr_iret hx hb hr hlocks hE hJ hK hP hS h dX10_openBrackets_8
def m_X10_openBrackets  (r0 : Nat) (σ : SG)  : Option (Int32 × SG) := m_X10_openBrackets_0  r0 σ 
set_option maxHeartbeats 4000000 in
set_option maxRecDepth 100000 in
theorem k_X10_openBrackets (l : Launch) {E : EF} (Z : ZT)  (r0 : Nat) (hr0 : r0 < 2) (σ : SG)  {res : Int32 × SG} (h : m_X10_openBrackets  r0 σ  = some res) : Met l yX10_openBrackets wsX10_openBrackets rm_X10_openBrackets (va_Pc [.ref (za Z 166), .ref (za Z (203 + r0))] (wx E (zD Z) vwCl 211 (za Z) (tX Z) (tysX Z) σ)) (xQi E (zD Z) vwCl 211 (za Z) (tX Z) (tysX Z) res) 0 0 (ws_A 211 (za Z)) := by
  refine Met.ofW (cc := cX10_openBrackets) (maxL := 2) (ret := (some .int)) (by decide) rfl ?_
  intro p e s m args below meth c s₁ B hml hv
  obtain ⟨rfl, hE, hJ, hP, hK⟩ := hv
  have hl := lv_entry ([.ref (za Z 166), .ref (za Z (203 + r0))]) (n := 2) (Nat.le_of_ble_eq_true rfl)
  rw [lg_entry_eq]
  generalize (lg_sl ([.ref (za Z 166), .ref (za Z (203 + r0))]) ++ List.replicate (2 - (lg_sl ([.ref (za Z 166), .ref (za Z (203 + r0))])).length) Slot.unset).toArray = ls at hl ⊢
  exact kb_X10_openBrackets_0 Z  r0 hr0 ⟨B.exec, B.bytes, B.returns, B.notSynchronized, hml, findClass_of_methodNamed B.named, atoms_spec (ws := wsX10_openBrackets) B.pre, hE, hJ, hK⟩ σ  h s.heap [] hP va_S.rf ls hl
/-! TuneSearch$WordReader.openGroup(LTuneSearch$Word;)I -/
abbrev rm_X10_openGroup : Room := { frames := 2, cells := 0, slots := 0, locals := 46 }
theorem in_X10_openGroup_X10 : ∀ w ∈ wsX100, w ∈ wsX10_openGroup := by decide +kernel
def m_X10_openGroup_0  (r0 : Nat)  (σ : SG)  : Option (Int32 × SG) :=
  if (σ.1 166 2) < 8 then (gB (inB (σ.1 166 2) 9) (bi (m_X2_closeItem ((σ.1 166 2).toNatClampNeg) r0 σ ) (fun v4 σ5 => lS (sI σ5 166 2 ((σ5.1 166 2) + 1)) (fun σ7 => gB (inB (σ7.1 166 2) 9) (bi (m_X2_begin ((σ7.1 166 2).toNatClampNeg) σ7 ) (fun v11 σ12 => some (0, σ12))))))) else (some (4, σ))
set_option maxHeartbeats 4000000 in
set_option maxRecDepth 100000 in
theorem kb_X10_openGroup_0 {p : Program} {l : Launch} {e : Env} {s : State} {m : MethodId} {args : Array Value} {below : List Frame} {meth : Method} {c : Code} {E : EF} (Z : ZT)  (r0 : Nat) (hr0 : r0 < 2) (C : cy p s m args meth c cX10_openGroup (some .int) 2 RX10 wsX10_openGroup E (zD Z) vwCl 211 (za Z) (tysX Z)) {res : Int32 × SG}   : ∀ (σ : SG)  , m_X10_openGroup_0  r0  σ  = some res → ∀ (H : Heap) (locs : List Loc), ws_P (zD Z) vwCl 211 (za Z) (tX Z) σ H → va_S (ws_A 211 (za Z)) s.heap H locs → ∀ (ls : Array Slot), lv_has ls 2 [(0, .ref (za Z 166)), (1, .ref (za Z (203 + r0)))] → W p l e rm_X10_openGroup s m args below meth c H locs 0 0 (MQ below (xQi E (zD Z) vwCl 211 (za Z) (tX Z) (tysX Z) res) args s 0 0 (ws_A 211 (za Z))) (F0 m 0 ls []) := by
  have C0 := C
  obtain ⟨hx, hb, hr, hlocks, hml, hown, hts, hE, hJ, hK⟩ := C0
  intro σ   h H locs hP hS ls hl
  unfold m_X10_openGroup_0 at h
  refine lv_aload_n hx hb dX10_openGroup_0 rfl (lv_at hl 0 rfl) ?_
  refine wr_get (C := RX10) (T := TX10) (N := 9) hx hb hts (in_X10_openGroup_X10) hown hK hP (k := 166) (by decide) ((tX_WordReader Z) _ _ _) rfl 2 (by decide) (hts (.fieldLink RX10 25 "TuneSearch$WordReader" "depth" "I") (by decide +kernel)) (fun _ h9 => h9) rfl dX10_openGroup_1 ?_
  refine lv_bipush (v := 8) hx hb dX10_openGroup_4 (by decide) ?_
  refine lv_icmp_lt (tgt := 11) hx hb dX10_openGroup_6 (by decide) (fun q1 => ?_) (fun q1 => ?_)
  · have h := if_p h q1
    refine lv_aload_n hx hb dX10_openGroup_11 rfl (lv_at hl 0 rfl) ?_
    refine wr_get (C := RX10) (T := TX10) (N := 9) hx hb hts (in_X10_openGroup_X10) hown hK hP (k := 166) (by decide) ((tX_WordReader Z) _ _ _) rfl 1 (by decide) (hts (.fieldLink RX10 11 "TuneSearch$WordReader" "levels" "[LTuneSearch$Level;") (by decide +kernel)) (fun _ h9 => h9) rfl dX10_openGroup_12 ?_
    refine lv_aload_n hx hb dX10_openGroup_15 rfl (lv_at hl 0 rfl) ?_
    refine wr_get (C := RX10) (T := TX10) (N := 9) hx hb hts (in_X10_openGroup_X10) hown hK hP (k := 166) (by decide) ((tX_WordReader Z) _ _ _) rfl 2 (by decide) (hts (.fieldLink RX10 25 "TuneSearch$WordReader" "depth" "I") (by decide +kernel)) (fun _ h9 => h9) rfl dX10_openGroup_16 ?_
    obtain ⟨b2, h⟩ := gB_e h
    have hi3 := inB_lt b2
    refine wr_aald hx hb hK hP (k := 149) (by decide) 4 rfl ((tX_levels Z) _ _ _) rfl b2 (row_at hi3) dX10_openGroup_19 ?_
    refine lv_aload_n hx hb dX10_openGroup_20 rfl (lv_at hl 1 rfl) ?_
    obtain ⟨v4, σ5, hm6, h⟩ := bi_e h
    refine xr_callv (res := (v4, σ5)) (va_runV (As := [.ref (za Z (203 + r0))]) (rest := []) ⟨hx, hb, hml, hown, hts⟩ (k_X2_closeItem l Z ((σ.1 166 2).toNatClampNeg) r0 hi3 hr0 σ  hm6) (cwV 1 hts gX10_openGroup_X2_closeItem rfl rfl rfl (by decide +kernel) ⟨Nat.le_of_ble_eq_true rfl, Nat.le_of_ble_eq_true rfl⟩) ⟨wx_blind, wr_recv hK hP (k := (167 + (σ.1 166 2).toNatClampNeg)) (by omega) ((tX_Level Z (σ.1 166 2).toNatClampNeg hi3) _ _ _) rfl, fun U hU hW => ⟨rfl, wx_at hE hJ hP hK hS hU hW⟩⟩ rfl rfl hl.1 rfl (lv_room (Nat.le_of_ble_eq_true rfl)) dX10_openGroup_21 ⟨Nat.le_of_ble_eq_true rfl, Nat.le_of_ble_eq_true rfl⟩) hS (fun H locs hP hS => ?_)
    have hP : ws_P (zD Z) vwCl 211 (za Z) (tX Z) σ5 H := hP
    refine lv_aload_n hx hb dX10_openGroup_24 rfl (lv_at hl 0 rfl) ?_
    refine lv_dup hx hb dX10_openGroup_25 rfl ?_
    refine wr_get (C := RX10) (T := TX10) (N := 9) hx hb hts (in_X10_openGroup_X10) hown hK hP (k := 166) (by decide) ((tX_WordReader Z) _ _ _) rfl 2 (by decide) (hts (.fieldLink RX10 25 "TuneSearch$WordReader" "depth" "I") (by decide +kernel)) (fun _ h9 => h9) rfl dX10_openGroup_26 ?_
    refine lv_iconst (v := 1) hx hb dX10_openGroup_29 (by decide) ?_
    refine lv_iadd hx hb dX10_openGroup_30 ?_
    refine wr_put (C := RX10) (T := TX10) (N := 9) (σ' := sI σ5 166 2 ((σ5.1 166 2) + 1)) (ty := .int) hx hb hts (in_X10_openGroup_X10) tyX10 tyX10_ok nmX10 hown hK hP hJ hS (k := 166) (by decide) ((tX_WordReader Z) _ _ _) rfl 2 (by decide) (hts (.fieldLink RX10 25 "TuneSearch$WordReader" "depth" "I") (by decide +kernel)) (fun _ h9 => h9) rfl (by decide +kernel) rfl rfl (Nat.le_of_ble_eq_true rfl) (ws_pI (tX_WordReader Z) rfl) dX10_openGroup_31 (fun H locs hP hS => ?_)
    obtain ⟨σ7, e8, h⟩ := lS_e h
    rw [← e8] at hP
    refine lv_aload_n hx hb dX10_openGroup_34 rfl (lv_at hl 0 rfl) ?_
    refine wr_get (C := RX10) (T := TX10) (N := 9) hx hb hts (in_X10_openGroup_X10) hown hK hP (k := 166) (by decide) ((tX_WordReader Z) _ _ _) rfl 1 (by decide) (hts (.fieldLink RX10 11 "TuneSearch$WordReader" "levels" "[LTuneSearch$Level;") (by decide +kernel)) (fun _ h9 => h9) rfl dX10_openGroup_35 ?_
    refine lv_aload_n hx hb dX10_openGroup_38 rfl (lv_at hl 0 rfl) ?_
    refine wr_get (C := RX10) (T := TX10) (N := 9) hx hb hts (in_X10_openGroup_X10) hown hK hP (k := 166) (by decide) ((tX_WordReader Z) _ _ _) rfl 2 (by decide) (hts (.fieldLink RX10 25 "TuneSearch$WordReader" "depth" "I") (by decide +kernel)) (fun _ h9 => h9) rfl dX10_openGroup_39 ?_
    obtain ⟨b9, h⟩ := gB_e h
    have hi10 := inB_lt b9
    refine wr_aald hx hb hK hP (k := 149) (by decide) 4 rfl ((tX_levels Z) _ _ _) rfl b9 (row_at hi10) dX10_openGroup_42 ?_
    obtain ⟨v11, σ12, hm13, h⟩ := bi_e h
    refine xr_callv (res := (v11, σ12)) (va_runV (As := []) (rest := []) ⟨hx, hb, hml, hown, hts⟩ (k_X2_begin l Z ((σ7.1 166 2).toNatClampNeg) hi10 σ7  hm13) (cwV 0 hts gX10_openGroup_X2_begin rfl rfl rfl (by decide +kernel) ⟨Nat.le_of_ble_eq_true rfl, Nat.le_of_ble_eq_true rfl⟩) ⟨wx_blind, wr_recv hK hP (k := (167 + (σ7.1 166 2).toNatClampNeg)) (by omega) ((tX_Level Z (σ7.1 166 2).toNatClampNeg hi10) _ _ _) rfl, fun U hU hW => ⟨rfl, wx_at hE hJ hP hK hS hU hW⟩⟩ rfl rfl hl.1 rfl (lv_room (Nat.le_of_ble_eq_true rfl)) dX10_openGroup_43 ⟨Nat.le_of_ble_eq_true rfl, Nat.le_of_ble_eq_true rfl⟩) hS (fun H locs hP hS => ?_)
    have hP : ws_P (zD Z) vwCl 211 (za Z) (tX Z) σ12 H := hP
    refine lv_iconst (v := 0) hx hb dX10_openGroup_46 (by decide) ?_
    exact xr_iret hx hb hr hlocks hE hJ hK hP hS h dX10_openGroup_47
  · have h := if_n h q1
    refine lv_iconst (v := 4) hx hb dX10_openGroup_9 (by decide) ?_
    exact xr_iret hx hb hr hlocks hE hJ hK hP hS h dX10_openGroup_10
def m_X10_openGroup  (r0 : Nat) (σ : SG)  : Option (Int32 × SG) := m_X10_openGroup_0  r0 σ 
set_option maxHeartbeats 4000000 in
set_option maxRecDepth 100000 in
theorem k_X10_openGroup (l : Launch) {E : EF} (Z : ZT)  (r0 : Nat) (hr0 : r0 < 2) (σ : SG)  {res : Int32 × SG} (h : m_X10_openGroup  r0 σ  = some res) : Met l yX10_openGroup wsX10_openGroup rm_X10_openGroup (va_Pc [.ref (za Z 166), .ref (za Z (203 + r0))] (wx E (zD Z) vwCl 211 (za Z) (tX Z) (tysX Z) σ)) (xQi E (zD Z) vwCl 211 (za Z) (tX Z) (tysX Z) res) 0 0 (ws_A 211 (za Z)) := by
  refine Met.ofW (cc := cX10_openGroup) (maxL := 2) (ret := (some .int)) (by decide) rfl ?_
  intro p e s m args below meth c s₁ B hml hv
  obtain ⟨rfl, hE, hJ, hP, hK⟩ := hv
  have hl := lv_entry ([.ref (za Z 166), .ref (za Z (203 + r0))]) (n := 2) (Nat.le_of_ble_eq_true rfl)
  rw [lg_entry_eq]
  generalize (lg_sl ([.ref (za Z 166), .ref (za Z (203 + r0))]) ++ List.replicate (2 - (lg_sl ([.ref (za Z 166), .ref (za Z (203 + r0))])).length) Slot.unset).toArray = ls at hl ⊢
  exact kb_X10_openGroup_0 Z  r0 hr0 ⟨B.exec, B.bytes, B.returns, B.notSynchronized, hml, findClass_of_methodNamed B.named, atoms_spec (ws := wsX10_openGroup) B.pre, hE, hJ, hK⟩ σ  h s.heap [] hP va_S.rf ls hl
/-! TuneSearch$WordReader.closeGroup(LTuneSearch$Word;)I -/
abbrev rm_X10_closeGroup : Room := { frames := 3, cells := 0, slots := 0, locals := 67 }
theorem in_X10_closeGroup_X2 : ∀ w ∈ wsX20, w ∈ wsX10_closeGroup := by decide +kernel
theorem in_X10_closeGroup_X5 : ∀ w ∈ wsX50, w ∈ wsX10_closeGroup := by decide +kernel
theorem in_X10_closeGroup_X10 : ∀ w ∈ wsX100, w ∈ wsX10_closeGroup := by decide +kernel
def m_X10_closeGroup_0  (r0 : Nat)  (σ : SG)  : Option (Int32 × SG) :=
  if ¬ (σ.1 166 2) = 0 then (gB (inB (σ.1 166 2) 9) (bi (m_X2_closeSeq ((σ.1 166 2).toNatClampNeg) r0 σ ) (fun v4 σ5 => lS (sI σ5 166 2 ((σ5.1 166 2) - 1)) (fun σ7 => gB (inB (σ7.1 166 2) 9) (bi (m_X5_become (3 * (σ7.1 166 2).toNatClampNeg + 2) σ7 (σ7.1 (176 + (3 * (σ.1 166 2).toNatClampNeg)) 0) (σ7.2.1 (176 + (3 * (σ.1 166 2).toNatClampNeg)) 1) (σ7.2.1 (176 + (3 * (σ.1 166 2).toNatClampNeg)) 2)) (fun v11 σ12 => lS (sI σ12 (167 + (σ7.1 166 2).toNatClampNeg) 3 1) (fun σ14 => some (0, σ14)))))))) else (some (2, σ))
set_option maxHeartbeats 4000000 in
set_option maxRecDepth 100000 in
theorem kb_X10_closeGroup_0 {p : Program} {l : Launch} {e : Env} {s : State} {m : MethodId} {args : Array Value} {below : List Frame} {meth : Method} {c : Code} {E : EF} (Z : ZT)  (r0 : Nat) (hr0 : r0 < 2) (C : cy p s m args meth c cX10_closeGroup (some .int) 4 RX10 wsX10_closeGroup E (zD Z) vwCl 211 (za Z) (tysX Z)) {res : Int32 × SG}   : ∀ (σ : SG)  , m_X10_closeGroup_0  r0  σ  = some res → ∀ (H : Heap) (locs : List Loc), ws_P (zD Z) vwCl 211 (za Z) (tX Z) σ H → va_S (ws_A 211 (za Z)) s.heap H locs → ∀ (ls : Array Slot), lv_has ls 4 [(0, .ref (za Z 166)), (1, .ref (za Z (203 + r0)))] → W p l e rm_X10_closeGroup s m args below meth c H locs 0 0 (MQ below (xQi E (zD Z) vwCl 211 (za Z) (tX Z) (tysX Z) res) args s 0 0 (ws_A 211 (za Z))) (F0 m 0 ls []) := by
  have C0 := C
  obtain ⟨hx, hb, hr, hlocks, hml, hown, hts, hE, hJ, hK⟩ := C0
  intro σ   h H locs hP hS ls hl
  unfold m_X10_closeGroup_0 at h
  refine lv_aload_n hx hb dX10_closeGroup_0 rfl (lv_at hl 0 rfl) ?_
  refine wr_get (C := RX10) (T := TX10) (N := 9) hx hb hts (in_X10_closeGroup_X10) hown hK hP (k := 166) (by decide) ((tX_WordReader Z) _ _ _) rfl 2 (by decide) (hts (.fieldLink RX10 25 "TuneSearch$WordReader" "depth" "I") (by decide +kernel)) (fun _ h9 => h9) rfl dX10_closeGroup_1 ?_
  refine lv_if_ne (tgt := 9) hx hb dX10_closeGroup_4 (by decide) (fun q1 => ?_) (fun q1 => ?_)
  · have h := if_p h q1
    refine lv_aload_n hx hb dX10_closeGroup_9 rfl (lv_at hl 0 rfl) ?_
    refine wr_get (C := RX10) (T := TX10) (N := 9) hx hb hts (in_X10_closeGroup_X10) hown hK hP (k := 166) (by decide) ((tX_WordReader Z) _ _ _) rfl 1 (by decide) (hts (.fieldLink RX10 11 "TuneSearch$WordReader" "levels" "[LTuneSearch$Level;") (by decide +kernel)) (fun _ h9 => h9) rfl dX10_closeGroup_10 ?_
    refine lv_aload_n hx hb dX10_closeGroup_13 rfl (lv_at hl 0 rfl) ?_
    refine wr_get (C := RX10) (T := TX10) (N := 9) hx hb hts (in_X10_closeGroup_X10) hown hK hP (k := 166) (by decide) ((tX_WordReader Z) _ _ _) rfl 2 (by decide) (hts (.fieldLink RX10 25 "TuneSearch$WordReader" "depth" "I") (by decide +kernel)) (fun _ h9 => h9) rfl dX10_closeGroup_14 ?_
    obtain ⟨b2, h⟩ := gB_e h
    have hi3 := inB_lt b2
    refine wr_aald hx hb hK hP (k := 149) (by decide) 4 rfl ((tX_levels Z) _ _ _) rfl b2 (row_at hi3) dX10_closeGroup_17 ?_
    refine lv_astore_n (lv' := [(2, .ref (za Z (167 + (σ.1 166 2).toNatClampNeg))), (0, .ref (za Z 166)), (1, .ref (za Z (203 + r0)))]) hx hb dX10_closeGroup_18 rfl hl (by decide) rfl (fun ls hl => ?_)
    refine lv_aload_n hx hb dX10_closeGroup_19 rfl (lv_at hl 0 rfl) ?_
    refine lv_aload_n hx hb dX10_closeGroup_20 rfl (lv_at hl 2 rfl) ?_
    obtain ⟨v4, σ5, hm6, h⟩ := bi_e h
    refine xr_callv (res := (v4, σ5)) (va_runV (As := [.ref (za Z (203 + r0))]) (rest := []) ⟨hx, hb, hml, hown, hts⟩ (k_X2_closeSeq l Z ((σ.1 166 2).toNatClampNeg) r0 hi3 hr0 σ  hm6) (cwV 1 hts gX10_closeGroup_X2_closeSeq rfl rfl rfl (by decide +kernel) ⟨Nat.le_of_ble_eq_true rfl, Nat.le_of_ble_eq_true rfl⟩) ⟨wx_blind, wr_recv hK hP (k := (167 + (σ.1 166 2).toNatClampNeg)) (by omega) ((tX_Level Z (σ.1 166 2).toNatClampNeg hi3) _ _ _) rfl, fun U hU hW => ⟨rfl, wx_at hE hJ hP hK hS hU hW⟩⟩ rfl rfl hl.1 rfl (lv_room (Nat.le_of_ble_eq_true rfl)) dX10_closeGroup_21 ⟨Nat.le_of_ble_eq_true rfl, Nat.le_of_ble_eq_true rfl⟩) hS (fun H locs hP hS => ?_)
    have hP : ws_P (zD Z) vwCl 211 (za Z) (tX Z) σ5 H := hP
    refine lv_aload_n hx hb dX10_closeGroup_24 rfl (lv_at hl 1 rfl) ?_
    refine lv_dup hx hb dX10_closeGroup_25 rfl ?_
    refine wr_get (C := RX10) (T := TX10) (N := 9) hx hb hts (in_X10_closeGroup_X10) hown hK hP (k := 166) (by decide) ((tX_WordReader Z) _ _ _) rfl 2 (by decide) (hts (.fieldLink RX10 25 "TuneSearch$WordReader" "depth" "I") (by decide +kernel)) (fun _ h9 => h9) rfl dX10_closeGroup_26 ?_
    refine lv_iconst (v := 1) hx hb dX10_closeGroup_29 (by decide) ?_
    refine lv_isub hx hb dX10_closeGroup_30 ?_
    refine wr_put (C := RX10) (T := TX10) (N := 9) (σ' := sI σ5 166 2 ((σ5.1 166 2) - 1)) (ty := .int) hx hb hts (in_X10_closeGroup_X10) tyX10 tyX10_ok nmX10 hown hK hP hJ hS (k := 166) (by decide) ((tX_WordReader Z) _ _ _) rfl 2 (by decide) (hts (.fieldLink RX10 25 "TuneSearch$WordReader" "depth" "I") (by decide +kernel)) (fun _ h9 => h9) rfl (by decide +kernel) rfl rfl (Nat.le_of_ble_eq_true rfl) (ws_pI (tX_WordReader Z) rfl) dX10_closeGroup_31 (fun H locs hP hS => ?_)
    obtain ⟨σ7, e8, h⟩ := lS_e h
    rw [← e8] at hP
    refine lv_aload_n hx hb dX10_closeGroup_34 rfl (lv_at hl 1 rfl) ?_
    refine wr_get (C := RX10) (T := TX10) (N := 9) hx hb hts (in_X10_closeGroup_X10) hown hK hP (k := 166) (by decide) ((tX_WordReader Z) _ _ _) rfl 1 (by decide) (hts (.fieldLink RX10 11 "TuneSearch$WordReader" "levels" "[LTuneSearch$Level;") (by decide +kernel)) (fun _ h9 => h9) rfl dX10_closeGroup_35 ?_
    refine lv_aload_n hx hb dX10_closeGroup_38 rfl (lv_at hl 1 rfl) ?_
    refine wr_get (C := RX10) (T := TX10) (N := 9) hx hb hts (in_X10_closeGroup_X10) hown hK hP (k := 166) (by decide) ((tX_WordReader Z) _ _ _) rfl 2 (by decide) (hts (.fieldLink RX10 25 "TuneSearch$WordReader" "depth" "I") (by decide +kernel)) (fun _ h9 => h9) rfl dX10_closeGroup_39 ?_
    obtain ⟨b9, h⟩ := gB_e h
    have hi10 := inB_lt b9
    refine wr_aald hx hb hK hP (k := 149) (by decide) 4 rfl ((tX_levels Z) _ _ _) rfl b9 (row_at hi10) dX10_closeGroup_42 ?_
    refine lv_astore_n (lv' := [(3, .ref (za Z (167 + (σ7.1 166 2).toNatClampNeg))), (2, .ref (za Z (167 + (σ.1 166 2).toNatClampNeg))), (0, .ref (za Z 166)), (1, .ref (za Z (203 + r0)))]) hx hb dX10_closeGroup_43 rfl hl (by decide) rfl (fun ls hl => ?_)
    refine lv_aload_n hx hb dX10_closeGroup_44 rfl (lv_at hl 0 rfl) ?_
    refine wr_get (C := RX2) (T := TX2) (N := 4) hx hb hts (in_X10_closeGroup_X2) hown hK hP (k := (167 + (σ7.1 166 2).toNatClampNeg)) (by omega) ((tX_Level Z (σ7.1 166 2).toNatClampNeg hi10) _ _ _) rfl 2 (by decide) (hts (.fieldLink RX10 133 "TuneSearch$Level" "item" "LTuneSearch$Part;") (by decide +kernel)) (fun _ h9 => h9) rfl dX10_closeGroup_45 ?_
    refine lv_aload_n hx hb dX10_closeGroup_48 rfl (lv_at hl 1 rfl) ?_
    refine wr_get (C := RX2) (T := TX2) (N := 4) hx hb hts (in_X10_closeGroup_X2) hown hK hP (k := (167 + (σ.1 166 2).toNatClampNeg)) (by omega) ((tX_Level Z (σ.1 166 2).toNatClampNeg hi3) _ _ _) rfl 0 (by decide) (hts (.fieldLink RX10 51 "TuneSearch$Level" "choices" "LTuneSearch$Part;") (by decide +kernel)) (fun _ h9 => h9) rfl dX10_closeGroup_49 ?_
    refine wr_get (C := RX5) (T := TX5) (N := 3) hx hb hts (in_X10_closeGroup_X5) hown hK hP (k := (176 + (3 * (σ.1 166 2).toNatClampNeg))) (by omega) ((tX_Part Z (3 * (σ.1 166 2).toNatClampNeg) (by omega)) _ _ _) rfl 0 (by decide) (hts (.fieldLink RX10 144 "TuneSearch$Part" "empty" "Z") (by decide +kernel)) (fun _ h9 => h9) rfl dX10_closeGroup_52 ?_
    refine lv_aload_n hx hb dX10_closeGroup_55 rfl (lv_at hl 1 rfl) ?_
    refine wr_get (C := RX2) (T := TX2) (N := 4) hx hb hts (in_X10_closeGroup_X2) hown hK hP (k := (167 + (σ.1 166 2).toNatClampNeg)) (by omega) ((tX_Level Z (σ.1 166 2).toNatClampNeg hi3) _ _ _) rfl 0 (by decide) (hts (.fieldLink RX10 51 "TuneSearch$Level" "choices" "LTuneSearch$Part;") (by decide +kernel)) (fun _ h9 => h9) rfl dX10_closeGroup_56 ?_
    refine wr_get (C := RX5) (T := TX5) (N := 3) hx hb hts (in_X10_closeGroup_X5) hown hK hP (k := (176 + (3 * (σ.1 166 2).toNatClampNeg))) (by omega) ((tX_Part Z (3 * (σ.1 166 2).toNatClampNeg) (by omega)) _ _ _) rfl 1 (by decide) (hts (.fieldLink RX10 55 "TuneSearch$Part" "first" "J") (by decide +kernel)) (fun _ h9 => h9) rfl dX10_closeGroup_59 ?_
    refine lv_aload_n hx hb dX10_closeGroup_62 rfl (lv_at hl 1 rfl) ?_
    refine wr_get (C := RX2) (T := TX2) (N := 4) hx hb hts (in_X10_closeGroup_X2) hown hK hP (k := (167 + (σ.1 166 2).toNatClampNeg)) (by omega) ((tX_Level Z (σ.1 166 2).toNatClampNeg hi3) _ _ _) rfl 0 (by decide) (hts (.fieldLink RX10 51 "TuneSearch$Level" "choices" "LTuneSearch$Part;") (by decide +kernel)) (fun _ h9 => h9) rfl dX10_closeGroup_63 ?_
    refine wr_get (C := RX5) (T := TX5) (N := 3) hx hb hts (in_X10_closeGroup_X5) hown hK hP (k := (176 + (3 * (σ.1 166 2).toNatClampNeg))) (by omega) ((tX_Part Z (3 * (σ.1 166 2).toNatClampNeg) (by omega)) _ _ _) rfl 2 (by decide) (hts (.fieldLink RX10 62 "TuneSearch$Part" "last" "J") (by decide +kernel)) (fun _ h9 => h9) rfl dX10_closeGroup_66 ?_
    obtain ⟨v11, σ12, hm13, h⟩ := bi_e h
    refine xr_callv (res := (v11, σ12)) (va_runV (As := [.int (σ7.1 (176 + (3 * (σ.1 166 2).toNatClampNeg)) 0), .long (σ7.2.1 (176 + (3 * (σ.1 166 2).toNatClampNeg)) 1), .long (σ7.2.1 (176 + (3 * (σ.1 166 2).toNatClampNeg)) 2)]) (rest := []) ⟨hx, hb, hml, hown, hts⟩ (k_X5_become l Z (3 * (σ7.1 166 2).toNatClampNeg + 2) (by omega) σ7 (σ7.1 (176 + (3 * (σ.1 166 2).toNatClampNeg)) 0) (σ7.2.1 (176 + (3 * (σ.1 166 2).toNatClampNeg)) 1) (σ7.2.1 (176 + (3 * (σ.1 166 2).toNatClampNeg)) 2) hm13) (cwV 3 hts gX10_closeGroup_X5_become rfl rfl rfl (by decide +kernel) ⟨Nat.le_of_ble_eq_true rfl, Nat.le_of_ble_eq_true rfl⟩) ⟨wx_blind, wr_recv hK hP (k := (176 + (3 * (σ7.1 166 2).toNatClampNeg + 2))) (by omega) ((tX_Part Z (3 * (σ7.1 166 2).toNatClampNeg + 2) (by omega)) _ _ _) rfl, fun U hU hW => ⟨rfl, wx_at hE hJ hP hK hS hU hW⟩⟩ rfl rfl hl.1 rfl (lv_room (Nat.le_of_ble_eq_true rfl)) dX10_closeGroup_69 ⟨Nat.le_of_ble_eq_true rfl, Nat.le_of_ble_eq_true rfl⟩) hS (fun H locs hP hS => ?_)
    have hP : ws_P (zD Z) vwCl 211 (za Z) (tX Z) σ12 H := hP
    refine lv_aload_n hx hb dX10_closeGroup_72 rfl (lv_at hl 0 rfl) ?_
    refine lv_iconst (v := 1) hx hb dX10_closeGroup_73 (by decide) ?_
    refine wr_put (C := RX2) (T := TX2) (N := 4) (σ' := sI σ12 (167 + (σ7.1 166 2).toNatClampNeg) 3 1) (ty := .boolean) hx hb hts (in_X10_closeGroup_X2) tyX2 tyX2_ok nmX2 hown hK hP hJ hS (k := (167 + (σ7.1 166 2).toNatClampNeg)) (by omega) ((tX_Level Z (σ7.1 166 2).toNatClampNeg hi10) _ _ _) rfl 3 (by decide) (hts (.fieldLink RX10 140 "TuneSearch$Level" "canRepeat" "Z") (by decide +kernel)) (fun _ h9 => h9) rfl (by decide +kernel) rfl rfl (Nat.le_of_ble_eq_true rfl) (ws_pI (tX_Level Z (σ7.1 166 2).toNatClampNeg hi10) rfl) dX10_closeGroup_74 (fun H locs hP hS => ?_)
    obtain ⟨σ14, e15, h⟩ := lS_e h
    rw [← e15] at hP
    refine lv_iconst (v := 0) hx hb dX10_closeGroup_77 (by decide) ?_
    exact xr_iret hx hb hr hlocks hE hJ hK hP hS h dX10_closeGroup_78
  · have h := if_n h (fun z => z q1)
    refine lv_iconst (v := 2) hx hb dX10_closeGroup_7 (by decide) ?_
    exact xr_iret hx hb hr hlocks hE hJ hK hP hS h dX10_closeGroup_8
def m_X10_closeGroup  (r0 : Nat) (σ : SG)  : Option (Int32 × SG) := m_X10_closeGroup_0  r0 σ 
set_option maxHeartbeats 4000000 in
set_option maxRecDepth 100000 in
theorem k_X10_closeGroup (l : Launch) {E : EF} (Z : ZT)  (r0 : Nat) (hr0 : r0 < 2) (σ : SG)  {res : Int32 × SG} (h : m_X10_closeGroup  r0 σ  = some res) : Met l yX10_closeGroup wsX10_closeGroup rm_X10_closeGroup (va_Pc [.ref (za Z 166), .ref (za Z (203 + r0))] (wx E (zD Z) vwCl 211 (za Z) (tX Z) (tysX Z) σ)) (xQi E (zD Z) vwCl 211 (za Z) (tX Z) (tysX Z) res) 0 0 (ws_A 211 (za Z)) := by
  refine Met.ofW (cc := cX10_closeGroup) (maxL := 4) (ret := (some .int)) (by decide) rfl ?_
  intro p e s m args below meth c s₁ B hml hv
  obtain ⟨rfl, hE, hJ, hP, hK⟩ := hv
  have hl := lv_entry ([.ref (za Z 166), .ref (za Z (203 + r0))]) (n := 4) (Nat.le_of_ble_eq_true rfl)
  rw [lg_entry_eq]
  generalize (lg_sl ([.ref (za Z 166), .ref (za Z (203 + r0))]) ++ List.replicate (4 - (lg_sl ([.ref (za Z 166), .ref (za Z (203 + r0))])).length) Slot.unset).toArray = ls at hl ⊢
  exact kb_X10_closeGroup_0 Z  r0 hr0 ⟨B.exec, B.bytes, B.returns, B.notSynchronized, hml, findClass_of_methodNamed B.named, atoms_spec (ws := wsX10_closeGroup) B.pre, hE, hJ, hK⟩ σ  h s.heap [] hP va_S.rf ls hl
/-! TuneSearch$WordReader.repeat(LTuneSearch$Word;)I -/
abbrev rm_X10_repeat : Room := { frames := 1, cells := 0, slots := 0, locals := 25 }
theorem in_X10_repeat_X2 : ∀ w ∈ wsX20, w ∈ wsX10_repeat := by decide +kernel
theorem in_X10_repeat_X5 : ∀ w ∈ wsX50, w ∈ wsX10_repeat := by decide +kernel
theorem in_X10_repeat_X10 : ∀ w ∈ wsX100, w ∈ wsX10_repeat := by decide +kernel
def m_X10_repeat_63  (r0 : Nat)  (σ : SG) (l2 : Nat) : Option (Int32 × SG) :=
  lS (sI σ (167 + l2) 3 0) (fun σ11 => some (0, σ11))
set_option maxHeartbeats 4000000 in
set_option maxRecDepth 100000 in
theorem kb_X10_repeat_63 {p : Program} {l : Launch} {e : Env} {s : State} {m : MethodId} {args : Array Value} {below : List Frame} {meth : Method} {c : Code} {E : EF} (Z : ZT)  (r0 : Nat) (hr0 : r0 < 2) (C : cy p s m args meth c cX10_repeat (some .int) 3 RX10 wsX10_repeat E (zD Z) vwCl 211 (za Z) (tysX Z)) {res : Int32 × SG}   : ∀ (σ : SG) (l2 : Nat) (hl2 : l2 < 9), m_X10_repeat_63  r0  σ l2 = some res → ∀ (H : Heap) (locs : List Loc), ws_P (zD Z) vwCl 211 (za Z) (tX Z) σ H → va_S (ws_A 211 (za Z)) s.heap H locs → ∀ (ls : Array Slot), lv_has ls 3 [(2, .ref (za Z (167 + l2)))] → W p l e rm_X10_repeat s m args below meth c H locs 0 0 (MQ below (xQi E (zD Z) vwCl 211 (za Z) (tX Z) (tysX Z) res) args s 0 0 (ws_A 211 (za Z))) (F0 m 63 ls []) := by
  have C0 := C
  obtain ⟨hx, hb, hr, hlocks, hml, hown, hts, hE, hJ, hK⟩ := C0
  intro σ l2 hl2 h H locs hP hS ls hl
  unfold m_X10_repeat_63 at h
  refine lv_aload_n hx hb dX10_repeat_63 rfl (lv_at hl 0 rfl) ?_
  refine lv_iconst (v := 0) hx hb dX10_repeat_64 (by decide) ?_
  refine wr_put (C := RX2) (T := TX2) (N := 4) (σ' := sI σ (167 + l2) 3 0) (ty := .boolean) hx hb hts (in_X10_repeat_X2) tyX2 tyX2_ok nmX2 hown hK hP hJ hS (k := (167 + l2)) (by omega) ((tX_Level Z l2 hl2) _ _ _) rfl 3 (by decide) (hts (.fieldLink RX10 140 "TuneSearch$Level" "canRepeat" "Z") (by decide +kernel)) (fun _ h9 => h9) rfl (by decide +kernel) rfl rfl (Nat.le_of_ble_eq_true rfl) (ws_pI (tX_Level Z l2 hl2) rfl) dX10_repeat_65 (fun H locs hP hS => ?_)
  obtain ⟨σ11, e12, h⟩ := lS_e h
  rw [← e12] at hP
  refine lv_iconst (v := 0) hx hb dX10_repeat_68 (by decide) ?_
  exact xr_iret hx hb hr hlocks hE hJ hK hP hS h dX10_repeat_69
def m_X10_repeat_46  (r0 : Nat)  (σ : SG) (l2 : Nat) : Option (Int32 × SG) :=
  if (σ.1 166 4) = 43 then (m_X10_repeat_63  r0  σ l2) else (lS (sI σ (176 + (3 * l2 + 2)) 0 1) (fun σ9 => m_X10_repeat_63  r0  σ9 l2))
set_option maxHeartbeats 4000000 in
set_option maxRecDepth 100000 in
theorem kb_X10_repeat_46 {p : Program} {l : Launch} {e : Env} {s : State} {m : MethodId} {args : Array Value} {below : List Frame} {meth : Method} {c : Code} {E : EF} (Z : ZT)  (r0 : Nat) (hr0 : r0 < 2) (C : cy p s m args meth c cX10_repeat (some .int) 3 RX10 wsX10_repeat E (zD Z) vwCl 211 (za Z) (tysX Z)) {res : Int32 × SG}   : ∀ (σ : SG) (l2 : Nat) (hl2 : l2 < 9), m_X10_repeat_46  r0  σ l2 = some res → ∀ (H : Heap) (locs : List Loc), ws_P (zD Z) vwCl 211 (za Z) (tX Z) σ H → va_S (ws_A 211 (za Z)) s.heap H locs → ∀ (ls : Array Slot), lv_has ls 3 [(0, .ref (za Z 166)), (2, .ref (za Z (167 + l2)))] → W p l e rm_X10_repeat s m args below meth c H locs 0 0 (MQ below (xQi E (zD Z) vwCl 211 (za Z) (tX Z) (tysX Z) res) args s 0 0 (ws_A 211 (za Z))) (F0 m 46 ls []) := by
  have C0 := C
  obtain ⟨hx, hb, hr, hlocks, hml, hown, hts, hE, hJ, hK⟩ := C0
  intro σ l2 hl2 h H locs hP hS ls hl
  unfold m_X10_repeat_46 at h
  refine lv_aload_n hx hb dX10_repeat_46 rfl (lv_at hl 0 rfl) ?_
  refine wr_get (C := RX10) (T := TX10) (N := 9) hx hb hts (in_X10_repeat_X10) hown hK hP (k := 166) (by decide) ((tX_WordReader Z) _ _ _) rfl 4 (by decide) (hts (.fieldLink RX10 44 "TuneSearch$WordReader" "token" "I") (by decide +kernel)) (fun _ h9 => h9) rfl dX10_repeat_47 ?_
  refine lv_bipush (v := 43) hx hb dX10_repeat_50 (by decide) ?_
  refine lv_icmp_eq (tgt := 63) hx hb dX10_repeat_52 (by decide) (fun q8 => ?_) (fun q8 => ?_)
  · have h := if_p h q8
    exact kb_X10_repeat_63 Z  r0 hr0 C   σ l2 hl2 h H locs hP hS ls (lv_sub hl [1] rfl)
  · have h := if_n h q8
    refine lv_aload_n hx hb dX10_repeat_55 rfl (lv_at hl 1 rfl) ?_
    refine wr_get (C := RX2) (T := TX2) (N := 4) hx hb hts (in_X10_repeat_X2) hown hK hP (k := (167 + l2)) (by omega) ((tX_Level Z l2 hl2) _ _ _) rfl 2 (by decide) (hts (.fieldLink RX10 133 "TuneSearch$Level" "item" "LTuneSearch$Part;") (by decide +kernel)) (fun _ h9 => h9) rfl dX10_repeat_56 ?_
    refine lv_iconst (v := 1) hx hb dX10_repeat_59 (by decide) ?_
    refine wr_put (C := RX5) (T := TX5) (N := 3) (σ' := sI σ (176 + (3 * l2 + 2)) 0 1) (ty := .boolean) hx hb hts (in_X10_repeat_X5) tyX5 tyX5_ok nmX5 hown hK hP hJ hS (k := (176 + (3 * l2 + 2))) (by omega) ((tX_Part Z (3 * l2 + 2) (by omega)) _ _ _) rfl 0 (by decide) (hts (.fieldLink RX10 144 "TuneSearch$Part" "empty" "Z") (by decide +kernel)) (fun _ h9 => h9) rfl (by decide +kernel) rfl rfl (Nat.le_of_ble_eq_true rfl) (ws_pI (tX_Part Z (3 * l2 + 2) (by omega)) rfl) dX10_repeat_60 (fun H locs hP hS => ?_)
    obtain ⟨σ9, e10, h⟩ := lS_e h
    rw [← e10] at hP
    exact kb_X10_repeat_63 Z  r0 hr0 C   σ9 l2 hl2 h H locs hP hS ls (lv_sub hl [1] rfl)
def m_X10_repeat_0  (r0 : Nat)  (σ : SG)  : Option (Int32 × SG) :=
  gB (inB (σ.1 166 2) 9) (if ¬ (σ.1 (167 + (σ.1 166 2).toNatClampNeg) 3) = 0 then (if (σ.1 166 4) = 63 then (m_X10_repeat_46  r0  σ ((σ.1 166 2).toNatClampNeg)) else (bi (m_X9_link r0 σ (σ.2.1 (176 + (3 * (σ.1 166 2).toNatClampNeg + 2)) 2) (σ.2.1 (176 + (3 * (σ.1 166 2).toNatClampNeg + 2)) 1)) (fun v5 σ6 => m_X10_repeat_46  r0  σ6 ((σ.1 166 2).toNatClampNeg)))) else (some (2, σ)))
set_option maxHeartbeats 4000000 in
set_option maxRecDepth 100000 in
theorem kb_X10_repeat_0 {p : Program} {l : Launch} {e : Env} {s : State} {m : MethodId} {args : Array Value} {below : List Frame} {meth : Method} {c : Code} {E : EF} (Z : ZT)  (r0 : Nat) (hr0 : r0 < 2) (C : cy p s m args meth c cX10_repeat (some .int) 3 RX10 wsX10_repeat E (zD Z) vwCl 211 (za Z) (tysX Z)) {res : Int32 × SG}   : ∀ (σ : SG)  , m_X10_repeat_0  r0  σ  = some res → ∀ (H : Heap) (locs : List Loc), ws_P (zD Z) vwCl 211 (za Z) (tX Z) σ H → va_S (ws_A 211 (za Z)) s.heap H locs → ∀ (ls : Array Slot), lv_has ls 3 [(0, .ref (za Z 166)), (1, .ref (za Z (203 + r0)))] → W p l e rm_X10_repeat s m args below meth c H locs 0 0 (MQ below (xQi E (zD Z) vwCl 211 (za Z) (tX Z) (tysX Z) res) args s 0 0 (ws_A 211 (za Z))) (F0 m 0 ls []) := by
  have C0 := C
  obtain ⟨hx, hb, hr, hlocks, hml, hown, hts, hE, hJ, hK⟩ := C0
  intro σ   h H locs hP hS ls hl
  unfold m_X10_repeat_0 at h
  refine lv_aload_n hx hb dX10_repeat_0 rfl (lv_at hl 0 rfl) ?_
  refine wr_get (C := RX10) (T := TX10) (N := 9) hx hb hts (in_X10_repeat_X10) hown hK hP (k := 166) (by decide) ((tX_WordReader Z) _ _ _) rfl 1 (by decide) (hts (.fieldLink RX10 11 "TuneSearch$WordReader" "levels" "[LTuneSearch$Level;") (by decide +kernel)) (fun _ h9 => h9) rfl dX10_repeat_1 ?_
  refine lv_aload_n hx hb dX10_repeat_4 rfl (lv_at hl 0 rfl) ?_
  refine wr_get (C := RX10) (T := TX10) (N := 9) hx hb hts (in_X10_repeat_X10) hown hK hP (k := 166) (by decide) ((tX_WordReader Z) _ _ _) rfl 2 (by decide) (hts (.fieldLink RX10 25 "TuneSearch$WordReader" "depth" "I") (by decide +kernel)) (fun _ h9 => h9) rfl dX10_repeat_5 ?_
  obtain ⟨b1, h⟩ := gB_e h
  have hi2 := inB_lt b1
  refine wr_aald hx hb hK hP (k := 149) (by decide) 4 rfl ((tX_levels Z) _ _ _) rfl b1 (row_at hi2) dX10_repeat_8 ?_
  refine lv_astore_n (lv' := [(2, .ref (za Z (167 + (σ.1 166 2).toNatClampNeg))), (0, .ref (za Z 166)), (1, .ref (za Z (203 + r0)))]) hx hb dX10_repeat_9 rfl hl (by decide) rfl (fun ls hl => ?_)
  refine lv_aload_n hx hb dX10_repeat_10 rfl (lv_at hl 0 rfl) ?_
  refine wr_get (C := RX2) (T := TX2) (N := 4) hx hb hts (in_X10_repeat_X2) hown hK hP (k := (167 + (σ.1 166 2).toNatClampNeg)) (by omega) ((tX_Level Z (σ.1 166 2).toNatClampNeg hi2) _ _ _) rfl 3 (by decide) (hts (.fieldLink RX10 140 "TuneSearch$Level" "canRepeat" "Z") (by decide +kernel)) (fun _ h9 => h9) rfl dX10_repeat_11 ?_
  refine lv_if_ne (tgt := 19) hx hb dX10_repeat_14 (by decide) (fun q3 => ?_) (fun q3 => ?_)
  · have h := if_p h q3
    refine lv_aload_n hx hb dX10_repeat_19 rfl (lv_at hl 1 rfl) ?_
    refine wr_get (C := RX10) (T := TX10) (N := 9) hx hb hts (in_X10_repeat_X10) hown hK hP (k := 166) (by decide) ((tX_WordReader Z) _ _ _) rfl 4 (by decide) (hts (.fieldLink RX10 44 "TuneSearch$WordReader" "token" "I") (by decide +kernel)) (fun _ h9 => h9) rfl dX10_repeat_20 ?_
    refine lv_bipush (v := 63) hx hb dX10_repeat_23 (by decide) ?_
    refine lv_icmp_eq (tgt := 46) hx hb dX10_repeat_25 (by decide) (fun q4 => ?_) (fun q4 => ?_)
    · have h := if_p h q4
      exact kb_X10_repeat_46 Z  r0 hr0 C   σ ((σ.1 166 2).toNatClampNeg) hi2 h H locs hP hS ls (lv_sub hl [1, 0] rfl)
    · have h := if_n h q4
      refine lv_aload_n hx hb dX10_repeat_28 rfl (lv_at hl 2 rfl) ?_
      refine lv_aload_n hx hb dX10_repeat_29 rfl (lv_at hl 0 rfl) ?_
      refine wr_get (C := RX2) (T := TX2) (N := 4) hx hb hts (in_X10_repeat_X2) hown hK hP (k := (167 + (σ.1 166 2).toNatClampNeg)) (by omega) ((tX_Level Z (σ.1 166 2).toNatClampNeg hi2) _ _ _) rfl 2 (by decide) (hts (.fieldLink RX10 133 "TuneSearch$Level" "item" "LTuneSearch$Part;") (by decide +kernel)) (fun _ h9 => h9) rfl dX10_repeat_30 ?_
      refine wr_get (C := RX5) (T := TX5) (N := 3) hx hb hts (in_X10_repeat_X5) hown hK hP (k := (176 + (3 * (σ.1 166 2).toNatClampNeg + 2))) (by omega) ((tX_Part Z (3 * (σ.1 166 2).toNatClampNeg + 2) (by omega)) _ _ _) rfl 2 (by decide) (hts (.fieldLink RX10 62 "TuneSearch$Part" "last" "J") (by decide +kernel)) (fun _ h9 => h9) rfl dX10_repeat_33 ?_
      refine lv_aload_n hx hb dX10_repeat_36 rfl (lv_at hl 0 rfl) ?_
      refine wr_get (C := RX2) (T := TX2) (N := 4) hx hb hts (in_X10_repeat_X2) hown hK hP (k := (167 + (σ.1 166 2).toNatClampNeg)) (by omega) ((tX_Level Z (σ.1 166 2).toNatClampNeg hi2) _ _ _) rfl 2 (by decide) (hts (.fieldLink RX10 133 "TuneSearch$Level" "item" "LTuneSearch$Part;") (by decide +kernel)) (fun _ h9 => h9) rfl dX10_repeat_37 ?_
      refine wr_get (C := RX5) (T := TX5) (N := 3) hx hb hts (in_X10_repeat_X5) hown hK hP (k := (176 + (3 * (σ.1 166 2).toNatClampNeg + 2))) (by omega) ((tX_Part Z (3 * (σ.1 166 2).toNatClampNeg + 2) (by omega)) _ _ _) rfl 1 (by decide) (hts (.fieldLink RX10 55 "TuneSearch$Part" "first" "J") (by decide +kernel)) (fun _ h9 => h9) rfl dX10_repeat_40 ?_
      obtain ⟨v5, σ6, hm7, h⟩ := bi_e h
      refine xr_callv (res := (v5, σ6)) (va_runV (As := [.long (σ.2.1 (176 + (3 * (σ.1 166 2).toNatClampNeg + 2)) 2), .long (σ.2.1 (176 + (3 * (σ.1 166 2).toNatClampNeg + 2)) 1)]) (rest := []) ⟨hx, hb, hml, hown, hts⟩ (k_X9_link l Z r0 hr0 σ (σ.2.1 (176 + (3 * (σ.1 166 2).toNatClampNeg + 2)) 2) (σ.2.1 (176 + (3 * (σ.1 166 2).toNatClampNeg + 2)) 1) hm7) (cwV 2 hts gX10_repeat_X9_link rfl rfl rfl (by decide +kernel) ⟨Nat.le_of_ble_eq_true rfl, Nat.le_of_ble_eq_true rfl⟩) ⟨wx_blind, wr_recv hK hP (k := (203 + r0)) (by omega) ((tX_Word Z r0 hr0) _ _ _) rfl, fun U hU hW => ⟨rfl, wx_at hE hJ hP hK hS hU hW⟩⟩ rfl rfl hl.1 rfl (lv_room (Nat.le_of_ble_eq_true rfl)) dX10_repeat_43 ⟨Nat.le_of_ble_eq_true rfl, Nat.le_of_ble_eq_true rfl⟩) hS (fun H locs hP hS => ?_)
      have hP : ws_P (zD Z) vwCl 211 (za Z) (tX Z) σ6 H := hP
      exact kb_X10_repeat_46 Z  r0 hr0 C   σ6 ((σ.1 166 2).toNatClampNeg) hi2 h H locs hP hS ls (lv_sub hl [1, 0] rfl)
  · have h := if_n h (fun z => z q3)
    refine lv_iconst (v := 2) hx hb dX10_repeat_17 (by decide) ?_
    exact xr_iret hx hb hr hlocks hE hJ hK hP hS h dX10_repeat_18
def m_X10_repeat  (r0 : Nat) (σ : SG)  : Option (Int32 × SG) := m_X10_repeat_0  r0 σ 
set_option maxHeartbeats 4000000 in
set_option maxRecDepth 100000 in
theorem k_X10_repeat (l : Launch) {E : EF} (Z : ZT)  (r0 : Nat) (hr0 : r0 < 2) (σ : SG)  {res : Int32 × SG} (h : m_X10_repeat  r0 σ  = some res) : Met l yX10_repeat wsX10_repeat rm_X10_repeat (va_Pc [.ref (za Z 166), .ref (za Z (203 + r0))] (wx E (zD Z) vwCl 211 (za Z) (tX Z) (tysX Z) σ)) (xQi E (zD Z) vwCl 211 (za Z) (tX Z) (tysX Z) res) 0 0 (ws_A 211 (za Z)) := by
  refine Met.ofW (cc := cX10_repeat) (maxL := 3) (ret := (some .int)) (by decide) rfl ?_
  intro p e s m args below meth c s₁ B hml hv
  obtain ⟨rfl, hE, hJ, hP, hK⟩ := hv
  have hl := lv_entry ([.ref (za Z 166), .ref (za Z (203 + r0))]) (n := 3) (Nat.le_of_ble_eq_true rfl)
  rw [lg_entry_eq]
  generalize (lg_sl ([.ref (za Z 166), .ref (za Z (203 + r0))]) ++ List.replicate (3 - (lg_sl ([.ref (za Z 166), .ref (za Z (203 + r0))])).length) Slot.unset).toArray = ls at hl ⊢
  exact kb_X10_repeat_0 Z  r0 hr0 ⟨B.exec, B.bytes, B.returns, B.notSynchronized, hml, findClass_of_methodNamed B.named, atoms_spec (ws := wsX10_repeat) B.pre, hE, hJ, hK⟩ σ  h s.heap [] hP va_S.rf ls hl
/-! TuneSearch$WordReader.take(LTuneSearch$Word;)I -/
abbrev rm_X10_take : Room := { frames := 4, cells := 0, slots := 0, locals := 93 }
theorem in_X10_take_X10 : ∀ w ∈ wsX100, w ∈ wsX10_take := by decide +kernel
def m_X10_take_0  (r0 : Nat)  (σ : SG)  : Option (Int32 × SG) :=
  if ¬ (σ.1 166 4) = (-1) then (if (σ.1 166 6) = 0 then (if (σ.1 166 4) = 0 then (if (σ.1 166 2) ≤ 0 then (some (0, σ)) else (some (2, σ))) else (if (σ.1 166 4) = 40 then (bi (m_X10_openGroup r0 σ ) (fun v6 σ7 => some (v6, σ7))) else (if (σ.1 166 4) = 41 then (bi (m_X10_closeGroup r0 σ ) (fun v10 σ11 => some (v10, σ11))) else (if (σ.1 166 4) = 42 then (bi (m_X10_repeat r0 σ ) (fun v14 σ15 => some (v14, σ15))) else (if (σ.1 166 4) = 43 then (bi (m_X10_repeat r0 σ ) (fun v18 σ19 => some (v18, σ19))) else (if (σ.1 166 4) = 46 then (bi (m_X10_takeAtom r0 σ (-999) 999) (fun v22 σ23 => some (v22, σ23))) else (if (σ.1 166 4) = 48 then (bi (m_X10_takeAtom r0 σ (σ.1 166 5) (σ.1 166 5)) (fun v26 σ27 => some (v26, σ27))) else (if (σ.1 166 4) = 63 then (bi (m_X10_repeat r0 σ ) (fun v30 σ31 => some (v30, σ31))) else (if (σ.1 166 4) = 91 then (bi (m_X10_openBrackets r0 σ ) (fun v34 σ35 => some (v34, σ35))) else (if (σ.1 166 4) = 114 then (bi (m_X10_takeAtom r0 σ (-1000) (-1000)) (fun v38 σ39 => some (v38, σ39))) else (if (σ.1 166 4) = 124 then (gB (inB (σ.1 166 2) 9) (bi (m_X2_closeSeq ((σ.1 166 2).toNatClampNeg) r0 σ ) (fun v44 σ45 => some (0, σ45)))) else (some (2, σ))))))))))))) else (bi (m_X10_takeWithinBrackets r0 σ ) (fun v47 σ48 => some (v47, σ48)))) else (some (1, σ))
set_option maxHeartbeats 4000000 in
set_option maxRecDepth 100000 in
theorem kb_X10_take_0 {p : Program} {l : Launch} {e : Env} {s : State} {m : MethodId} {args : Array Value} {below : List Frame} {meth : Method} {c : Code} {E : EF} (Z : ZT)  (r0 : Nat) (hr0 : r0 < 2) (C : cy p s m args meth c cX10_take (some .int) 2 RX10 wsX10_take E (zD Z) vwCl 211 (za Z) (tysX Z)) {res : Int32 × SG}   : ∀ (σ : SG)  , m_X10_take_0  r0  σ  = some res → ∀ (H : Heap) (locs : List Loc), ws_P (zD Z) vwCl 211 (za Z) (tX Z) σ H → va_S (ws_A 211 (za Z)) s.heap H locs → ∀ (ls : Array Slot), lv_has ls 2 [(0, .ref (za Z 166)), (1, .ref (za Z (203 + r0)))] → W p l e rm_X10_take s m args below meth c H locs 0 0 (MQ below (xQi E (zD Z) vwCl 211 (za Z) (tX Z) (tysX Z) res) args s 0 0 (ws_A 211 (za Z))) (F0 m 0 ls []) := by
  have C0 := C
  obtain ⟨hx, hb, hr, hlocks, hml, hown, hts, hE, hJ, hK⟩ := C0
  intro σ   h H locs hP hS ls hl
  unfold m_X10_take_0 at h
  refine lv_aload_n hx hb dX10_take_0 rfl (lv_at hl 0 rfl) ?_
  refine wr_get (C := RX10) (T := TX10) (N := 9) hx hb hts (in_X10_take_X10) hown hK hP (k := 166) (by decide) ((tX_WordReader Z) _ _ _) rfl 4 (by decide) (hts (.fieldLink RX10 44 "TuneSearch$WordReader" "token" "I") (by decide +kernel)) (fun _ h9 => h9) rfl dX10_take_1 ?_
  refine lv_iconst (v := (-1)) hx hb dX10_take_4 (by decide) ?_
  refine lv_icmp_ne (tgt := 10) hx hb dX10_take_5 (by decide) (fun q1 => ?_) (fun q1 => ?_)
  · have h := if_p h q1
    refine lv_aload_n hx hb dX10_take_10 rfl (lv_at hl 0 rfl) ?_
    refine wr_get (C := RX10) (T := TX10) (N := 9) hx hb hts (in_X10_take_X10) hown hK hP (k := 166) (by decide) ((tX_WordReader Z) _ _ _) rfl 6 (by decide) (hts (.fieldLink RX10 28 "TuneSearch$WordReader" "awaited" "I") (by decide +kernel)) (fun _ h9 => h9) rfl dX10_take_11 ?_
    refine lv_if_eq (tgt := 23) hx hb dX10_take_14 (by decide) (fun q2 => ?_) (fun q2 => ?_)
    · have h := if_p h q2
      refine lv_aload_n hx hb dX10_take_23 rfl (lv_at hl 0 rfl) ?_
      refine wr_get (C := RX10) (T := TX10) (N := 9) hx hb hts (in_X10_take_X10) hown hK hP (k := 166) (by decide) ((tX_WordReader Z) _ _ _) rfl 4 (by decide) (hts (.fieldLink RX10 44 "TuneSearch$WordReader" "token" "I") (by decide +kernel)) (fun _ h9 => h9) rfl dX10_take_24 ?_
      by_cases q3 : (σ.1 166 4) = 0
      · have h := if_p h q3
        refine lv_lookup (off := 174) (tgt := 201) hx hb dX10_take_27 (by decide) (by first | (rw [q3]; done) | (rw [q3]; rfl)) (by decide) ?_
        refine lv_aload_n hx hb dX10_take_201 rfl (lv_at hl 0 rfl) ?_
        refine wr_get (C := RX10) (T := TX10) (N := 9) hx hb hts (in_X10_take_X10) hown hK hP (k := 166) (by decide) ((tX_WordReader Z) _ _ _) rfl 2 (by decide) (hts (.fieldLink RX10 25 "TuneSearch$WordReader" "depth" "I") (by decide +kernel)) (fun _ h9 => h9) rfl dX10_take_202 ?_
        refine lv_if_le (tgt := 212) hx hb dX10_take_205 (by decide) (fun q4 => ?_) (fun q4 => ?_)
        · have h := if_p h q4
          refine lv_iconst (v := 0) hx hb dX10_take_212 (by decide) ?_
          exact xr_iret hx hb hr hlocks hE hJ hK hP hS h dX10_take_213
        · have h := if_n h q4
          refine lv_iconst (v := 2) hx hb dX10_take_208 (by decide) ?_
          refine lv_goto (tgt := 213) hx hb dX10_take_209 (by decide) ?_
          exact xr_iret hx hb hr hlocks hE hJ hK hP hS h dX10_take_213
      · have h := if_n h q3
        by_cases q5 : (σ.1 166 4) = 40
        · have h := if_p h q5
          refine lv_lookup (off := 141) (tgt := 168) hx hb dX10_take_27 (by decide) (by first | (rw [q5]; done) | (rw [q5]; rfl)) (by decide) ?_
          refine lv_aload_n hx hb dX10_take_168 rfl (lv_at hl 0 rfl) ?_
          refine lv_aload_n hx hb dX10_take_169 rfl (lv_at hl 1 rfl) ?_
          obtain ⟨v6, σ7, hm8, h⟩ := bi_e h
          refine xr_calli (res := (v6, σ7)) (va_runV (As := [.ref (za Z (203 + r0))]) (rest := []) ⟨hx, hb, hml, hown, hts⟩ (k_X10_openGroup l Z r0 hr0 σ  hm8) (cwV 1 hts gX10_take_X10_openGroup rfl rfl rfl (by decide +kernel) ⟨Nat.le_of_ble_eq_true rfl, Nat.le_of_ble_eq_true rfl⟩) ⟨wx_blind, wr_recv hK hP (k := 166) (by decide) ((tX_WordReader Z) _ _ _) rfl, fun U hU hW => ⟨rfl, wx_at hE hJ hP hK hS hU hW⟩⟩ rfl rfl hl.1 rfl (lv_room (Nat.le_of_ble_eq_true rfl)) dX10_take_170 ⟨Nat.le_of_ble_eq_true rfl, Nat.le_of_ble_eq_true rfl⟩) hS (fun H locs hP hS => ?_)
          have hP : ws_P (zD Z) vwCl 211 (za Z) (tX Z) σ7 H := hP
          exact xr_iret hx hb hr hlocks hE hJ hK hP hS h dX10_take_173
        · have h := if_n h q5
          by_cases q9 : (σ.1 166 4) = 41
          · have h := if_p h q9
            refine lv_lookup (off := 147) (tgt := 174) hx hb dX10_take_27 (by decide) (by first | (rw [q9]; done) | (rw [q9]; rfl)) (by decide) ?_
            refine lv_aload_n hx hb dX10_take_174 rfl (lv_at hl 0 rfl) ?_
            refine lv_aload_n hx hb dX10_take_175 rfl (lv_at hl 1 rfl) ?_
            obtain ⟨v10, σ11, hm12, h⟩ := bi_e h
            refine xr_calli (res := (v10, σ11)) (va_runV (As := [.ref (za Z (203 + r0))]) (rest := []) ⟨hx, hb, hml, hown, hts⟩ (k_X10_closeGroup l Z r0 hr0 σ  hm12) (cwV 1 hts gX10_take_X10_closeGroup rfl rfl rfl (by decide +kernel) ⟨Nat.le_of_ble_eq_true rfl, Nat.le_of_ble_eq_true rfl⟩) ⟨wx_blind, wr_recv hK hP (k := 166) (by decide) ((tX_WordReader Z) _ _ _) rfl, fun U hU hW => ⟨rfl, wx_at hE hJ hP hK hS hU hW⟩⟩ rfl rfl hl.1 rfl (lv_room (Nat.le_of_ble_eq_true rfl)) dX10_take_176 ⟨Nat.le_of_ble_eq_true rfl, Nat.le_of_ble_eq_true rfl⟩) hS (fun H locs hP hS => ?_)
            have hP : ws_P (zD Z) vwCl 211 (za Z) (tX Z) σ11 H := hP
            exact xr_iret hx hb hr hlocks hE hJ hK hP hS h dX10_take_179
          · have h := if_n h q9
            by_cases q13 : (σ.1 166 4) = 42
            · have h := if_p h q13
              refine lv_lookup (off := 168) (tgt := 195) hx hb dX10_take_27 (by decide) (by first | (rw [q13]; done) | (rw [q13]; rfl)) (by decide) ?_
              refine lv_aload_n hx hb dX10_take_195 rfl (lv_at hl 0 rfl) ?_
              refine lv_aload_n hx hb dX10_take_196 rfl (lv_at hl 1 rfl) ?_
              obtain ⟨v14, σ15, hm16, h⟩ := bi_e h
              refine xr_calli (res := (v14, σ15)) (va_runV (As := [.ref (za Z (203 + r0))]) (rest := []) ⟨hx, hb, hml, hown, hts⟩ (k_X10_repeat l Z r0 hr0 σ  hm16) (cwV 1 hts gX10_take_X10_repeat rfl rfl rfl (by decide +kernel) ⟨Nat.le_of_ble_eq_true rfl, Nat.le_of_ble_eq_true rfl⟩) ⟨wx_blind, wr_recv hK hP (k := 166) (by decide) ((tX_WordReader Z) _ _ _) rfl, fun U hU hW => ⟨rfl, wx_at hE hJ hP hK hS hU hW⟩⟩ rfl rfl hl.1 rfl (lv_room (Nat.le_of_ble_eq_true rfl)) dX10_take_197 ⟨Nat.le_of_ble_eq_true rfl, Nat.le_of_ble_eq_true rfl⟩) hS (fun H locs hP hS => ?_)
              have hP : ws_P (zD Z) vwCl 211 (za Z) (tX Z) σ15 H := hP
              exact xr_iret hx hb hr hlocks hE hJ hK hP hS h dX10_take_200
            · have h := if_n h q13
              by_cases q17 : (σ.1 166 4) = 43
              · have h := if_p h q17
                refine lv_lookup (off := 168) (tgt := 195) hx hb dX10_take_27 (by decide) (by first | (rw [q17]; done) | (rw [q17]; rfl)) (by decide) ?_
                refine lv_aload_n hx hb dX10_take_195 rfl (lv_at hl 0 rfl) ?_
                refine lv_aload_n hx hb dX10_take_196 rfl (lv_at hl 1 rfl) ?_
                obtain ⟨v18, σ19, hm20, h⟩ := bi_e h
                refine xr_calli (res := (v18, σ19)) (va_runV (As := [.ref (za Z (203 + r0))]) (rest := []) ⟨hx, hb, hml, hown, hts⟩ (k_X10_repeat l Z r0 hr0 σ  hm20) (cwV 1 hts gX10_take_X10_repeat rfl rfl rfl (by decide +kernel) ⟨Nat.le_of_ble_eq_true rfl, Nat.le_of_ble_eq_true rfl⟩) ⟨wx_blind, wr_recv hK hP (k := 166) (by decide) ((tX_WordReader Z) _ _ _) rfl, fun U hU hW => ⟨rfl, wx_at hE hJ hP hK hS hU hW⟩⟩ rfl rfl hl.1 rfl (lv_room (Nat.le_of_ble_eq_true rfl)) dX10_take_197 ⟨Nat.le_of_ble_eq_true rfl, Nat.le_of_ble_eq_true rfl⟩) hS (fun H locs hP hS => ?_)
                have hP : ws_P (zD Z) vwCl 211 (za Z) (tX Z) σ19 H := hP
                exact xr_iret hx hb hr hlocks hE hJ hK hP hS h dX10_take_200
              · have h := if_n h q17
                by_cases q21 : (σ.1 166 4) = 46
                · have h := if_p h q21
                  refine lv_lookup (off := 111) (tgt := 138) hx hb dX10_take_27 (by decide) (by first | (rw [q21]; done) | (rw [q21]; rfl)) (by decide) ?_
                  refine lv_aload_n hx hb dX10_take_138 rfl (lv_at hl 0 rfl) ?_
                  refine lv_aload_n hx hb dX10_take_139 rfl (lv_at hl 1 rfl) ?_
                  refine lv_sipush (v := (-999)) hx hb dX10_take_140 (by decide) ?_
                  refine lv_sipush (v := 999) hx hb dX10_take_143 (by decide) ?_
                  obtain ⟨v22, σ23, hm24, h⟩ := bi_e h
                  refine xr_calli (res := (v22, σ23)) (va_runV (As := [.ref (za Z (203 + r0)), .int (-999), .int 999]) (rest := []) ⟨hx, hb, hml, hown, hts⟩ (k_X10_takeAtom l Z r0 hr0 σ (-999) 999 hm24) (cwV 3 hts gX10_take_X10_takeAtom rfl rfl rfl (by decide +kernel) ⟨Nat.le_of_ble_eq_true rfl, Nat.le_of_ble_eq_true rfl⟩) ⟨wx_blind, wr_recv hK hP (k := 166) (by decide) ((tX_WordReader Z) _ _ _) rfl, fun U hU hW => ⟨rfl, wx_at hE hJ hP hK hS hU hW⟩⟩ rfl rfl hl.1 rfl (lv_room (Nat.le_of_ble_eq_true rfl)) dX10_take_146 ⟨Nat.le_of_ble_eq_true rfl, Nat.le_of_ble_eq_true rfl⟩) hS (fun H locs hP hS => ?_)
                  have hP : ws_P (zD Z) vwCl 211 (za Z) (tX Z) σ23 H := hP
                  exact xr_iret hx hb hr hlocks hE hJ hK hP hS h dX10_take_149
                · have h := if_n h q21
                  by_cases q25 : (σ.1 166 4) = 48
                  · have h := if_p h q25
                    refine lv_lookup (off := 97) (tgt := 124) hx hb dX10_take_27 (by decide) (by first | (rw [q25]; done) | (rw [q25]; rfl)) (by decide) ?_
                    refine lv_aload_n hx hb dX10_take_124 rfl (lv_at hl 0 rfl) ?_
                    refine lv_aload_n hx hb dX10_take_125 rfl (lv_at hl 1 rfl) ?_
                    refine lv_aload_n hx hb dX10_take_126 rfl (lv_at hl 0 rfl) ?_
                    refine wr_get (C := RX10) (T := TX10) (N := 9) hx hb hts (in_X10_take_X10) hown hK hP (k := 166) (by decide) ((tX_WordReader Z) _ _ _) rfl 5 (by decide) (hts (.fieldLink RX10 88 "TuneSearch$WordReader" "number" "I") (by decide +kernel)) (fun _ h9 => h9) rfl dX10_take_127 ?_
                    refine lv_aload_n hx hb dX10_take_130 rfl (lv_at hl 0 rfl) ?_
                    refine wr_get (C := RX10) (T := TX10) (N := 9) hx hb hts (in_X10_take_X10) hown hK hP (k := 166) (by decide) ((tX_WordReader Z) _ _ _) rfl 5 (by decide) (hts (.fieldLink RX10 88 "TuneSearch$WordReader" "number" "I") (by decide +kernel)) (fun _ h9 => h9) rfl dX10_take_131 ?_
                    obtain ⟨v26, σ27, hm28, h⟩ := bi_e h
                    refine xr_calli (res := (v26, σ27)) (va_runV (As := [.ref (za Z (203 + r0)), .int (σ.1 166 5), .int (σ.1 166 5)]) (rest := []) ⟨hx, hb, hml, hown, hts⟩ (k_X10_takeAtom l Z r0 hr0 σ (σ.1 166 5) (σ.1 166 5) hm28) (cwV 3 hts gX10_take_X10_takeAtom rfl rfl rfl (by decide +kernel) ⟨Nat.le_of_ble_eq_true rfl, Nat.le_of_ble_eq_true rfl⟩) ⟨wx_blind, wr_recv hK hP (k := 166) (by decide) ((tX_WordReader Z) _ _ _) rfl, fun U hU hW => ⟨rfl, wx_at hE hJ hP hK hS hU hW⟩⟩ rfl rfl hl.1 rfl (lv_room (Nat.le_of_ble_eq_true rfl)) dX10_take_134 ⟨Nat.le_of_ble_eq_true rfl, Nat.le_of_ble_eq_true rfl⟩) hS (fun H locs hP hS => ?_)
                    have hP : ws_P (zD Z) vwCl 211 (za Z) (tX Z) σ27 H := hP
                    exact xr_iret hx hb hr hlocks hE hJ hK hP hS h dX10_take_137
                  · have h := if_n h q25
                    by_cases q29 : (σ.1 166 4) = 63
                    · have h := if_p h q29
                      refine lv_lookup (off := 168) (tgt := 195) hx hb dX10_take_27 (by decide) (by first | (rw [q29]; done) | (rw [q29]; rfl)) (by decide) ?_
                      refine lv_aload_n hx hb dX10_take_195 rfl (lv_at hl 0 rfl) ?_
                      refine lv_aload_n hx hb dX10_take_196 rfl (lv_at hl 1 rfl) ?_
                      obtain ⟨v30, σ31, hm32, h⟩ := bi_e h
                      refine xr_calli (res := (v30, σ31)) (va_runV (As := [.ref (za Z (203 + r0))]) (rest := []) ⟨hx, hb, hml, hown, hts⟩ (k_X10_repeat l Z r0 hr0 σ  hm32) (cwV 1 hts gX10_take_X10_repeat rfl rfl rfl (by decide +kernel) ⟨Nat.le_of_ble_eq_true rfl, Nat.le_of_ble_eq_true rfl⟩) ⟨wx_blind, wr_recv hK hP (k := 166) (by decide) ((tX_WordReader Z) _ _ _) rfl, fun U hU hW => ⟨rfl, wx_at hE hJ hP hK hS hU hW⟩⟩ rfl rfl hl.1 rfl (lv_room (Nat.le_of_ble_eq_true rfl)) dX10_take_197 ⟨Nat.le_of_ble_eq_true rfl, Nat.le_of_ble_eq_true rfl⟩) hS (fun H locs hP hS => ?_)
                      have hP : ws_P (zD Z) vwCl 211 (za Z) (tX Z) σ31 H := hP
                      exact xr_iret hx hb hr hlocks hE hJ hK hP hS h dX10_take_200
                    · have h := if_n h q29
                      by_cases q33 : (σ.1 166 4) = 91
                      · have h := if_p h q33
                        refine lv_lookup (off := 135) (tgt := 162) hx hb dX10_take_27 (by decide) (by first | (rw [q33]; done) | (rw [q33]; rfl)) (by decide) ?_
                        refine lv_aload_n hx hb dX10_take_162 rfl (lv_at hl 0 rfl) ?_
                        refine lv_aload_n hx hb dX10_take_163 rfl (lv_at hl 1 rfl) ?_
                        obtain ⟨v34, σ35, hm36, h⟩ := bi_e h
                        refine xr_calli (res := (v34, σ35)) (va_runV (As := [.ref (za Z (203 + r0))]) (rest := []) ⟨hx, hb, hml, hown, hts⟩ (k_X10_openBrackets l Z r0 hr0 σ  hm36) (cwV 1 hts gX10_take_X10_openBrackets rfl rfl rfl (by decide +kernel) ⟨Nat.le_of_ble_eq_true rfl, Nat.le_of_ble_eq_true rfl⟩) ⟨wx_blind, wr_recv hK hP (k := 166) (by decide) ((tX_WordReader Z) _ _ _) rfl, fun U hU hW => ⟨rfl, wx_at hE hJ hP hK hS hU hW⟩⟩ rfl rfl hl.1 rfl (lv_room (Nat.le_of_ble_eq_true rfl)) dX10_take_164 ⟨Nat.le_of_ble_eq_true rfl, Nat.le_of_ble_eq_true rfl⟩) hS (fun H locs hP hS => ?_)
                        have hP : ws_P (zD Z) vwCl 211 (za Z) (tX Z) σ35 H := hP
                        exact xr_iret hx hb hr hlocks hE hJ hK hP hS h dX10_take_167
                      · have h := if_n h q33
                        by_cases q37 : (σ.1 166 4) = 114
                        · have h := if_p h q37
                          refine lv_lookup (off := 123) (tgt := 150) hx hb dX10_take_27 (by decide) (by first | (rw [q37]; done) | (rw [q37]; rfl)) (by decide) ?_
                          refine lv_aload_n hx hb dX10_take_150 rfl (lv_at hl 0 rfl) ?_
                          refine lv_aload_n hx hb dX10_take_151 rfl (lv_at hl 1 rfl) ?_
                          refine lv_sipush (v := (-1000)) hx hb dX10_take_152 (by decide) ?_
                          refine lv_sipush (v := (-1000)) hx hb dX10_take_155 (by decide) ?_
                          obtain ⟨v38, σ39, hm40, h⟩ := bi_e h
                          refine xr_calli (res := (v38, σ39)) (va_runV (As := [.ref (za Z (203 + r0)), .int (-1000), .int (-1000)]) (rest := []) ⟨hx, hb, hml, hown, hts⟩ (k_X10_takeAtom l Z r0 hr0 σ (-1000) (-1000) hm40) (cwV 3 hts gX10_take_X10_takeAtom rfl rfl rfl (by decide +kernel) ⟨Nat.le_of_ble_eq_true rfl, Nat.le_of_ble_eq_true rfl⟩) ⟨wx_blind, wr_recv hK hP (k := 166) (by decide) ((tX_WordReader Z) _ _ _) rfl, fun U hU hW => ⟨rfl, wx_at hE hJ hP hK hS hU hW⟩⟩ rfl rfl hl.1 rfl (lv_room (Nat.le_of_ble_eq_true rfl)) dX10_take_158 ⟨Nat.le_of_ble_eq_true rfl, Nat.le_of_ble_eq_true rfl⟩) hS (fun H locs hP hS => ?_)
                          have hP : ws_P (zD Z) vwCl 211 (za Z) (tX Z) σ39 H := hP
                          exact xr_iret hx hb hr hlocks hE hJ hK hP hS h dX10_take_161
                        · have h := if_n h q37
                          by_cases q41 : (σ.1 166 4) = 124
                          · have h := if_p h q41
                            refine lv_lookup (off := 153) (tgt := 180) hx hb dX10_take_27 (by decide) (by first | (rw [q41]; done) | (rw [q41]; rfl)) (by decide) ?_
                            refine lv_aload_n hx hb dX10_take_180 rfl (lv_at hl 0 rfl) ?_
                            refine wr_get (C := RX10) (T := TX10) (N := 9) hx hb hts (in_X10_take_X10) hown hK hP (k := 166) (by decide) ((tX_WordReader Z) _ _ _) rfl 1 (by decide) (hts (.fieldLink RX10 11 "TuneSearch$WordReader" "levels" "[LTuneSearch$Level;") (by decide +kernel)) (fun _ h9 => h9) rfl dX10_take_181 ?_
                            refine lv_aload_n hx hb dX10_take_184 rfl (lv_at hl 0 rfl) ?_
                            refine wr_get (C := RX10) (T := TX10) (N := 9) hx hb hts (in_X10_take_X10) hown hK hP (k := 166) (by decide) ((tX_WordReader Z) _ _ _) rfl 2 (by decide) (hts (.fieldLink RX10 25 "TuneSearch$WordReader" "depth" "I") (by decide +kernel)) (fun _ h9 => h9) rfl dX10_take_185 ?_
                            obtain ⟨b42, h⟩ := gB_e h
                            have hi43 := inB_lt b42
                            refine wr_aald hx hb hK hP (k := 149) (by decide) 4 rfl ((tX_levels Z) _ _ _) rfl b42 (row_at hi43) dX10_take_188 ?_
                            refine lv_aload_n hx hb dX10_take_189 rfl (lv_at hl 1 rfl) ?_
                            obtain ⟨v44, σ45, hm46, h⟩ := bi_e h
                            refine xr_callv (res := (v44, σ45)) (va_runV (As := [.ref (za Z (203 + r0))]) (rest := []) ⟨hx, hb, hml, hown, hts⟩ (k_X2_closeSeq l Z ((σ.1 166 2).toNatClampNeg) r0 hi43 hr0 σ  hm46) (cwV 1 hts gX10_take_X2_closeSeq rfl rfl rfl (by decide +kernel) ⟨Nat.le_of_ble_eq_true rfl, Nat.le_of_ble_eq_true rfl⟩) ⟨wx_blind, wr_recv hK hP (k := (167 + (σ.1 166 2).toNatClampNeg)) (by omega) ((tX_Level Z (σ.1 166 2).toNatClampNeg hi43) _ _ _) rfl, fun U hU hW => ⟨rfl, wx_at hE hJ hP hK hS hU hW⟩⟩ rfl rfl hl.1 rfl (lv_room (Nat.le_of_ble_eq_true rfl)) dX10_take_190 ⟨Nat.le_of_ble_eq_true rfl, Nat.le_of_ble_eq_true rfl⟩) hS (fun H locs hP hS => ?_)
                            have hP : ws_P (zD Z) vwCl 211 (za Z) (tX Z) σ45 H := hP
                            refine lv_iconst (v := 0) hx hb dX10_take_193 (by decide) ?_
                            exact xr_iret hx hb hr hlocks hE hJ hK hP hS h dX10_take_194
                          · have h := if_n h q41
                            refine lv_lookup (off := 187) (tgt := 214) hx hb dX10_take_27 (by decide) ((lv_osw q3 rfl).trans ((lv_osw q5 rfl).trans ((lv_osw q9 rfl).trans ((lv_osw q13 rfl).trans ((lv_osw q17 rfl).trans ((lv_osw q21 rfl).trans ((lv_osw q25 rfl).trans ((lv_osw q29 rfl).trans ((lv_osw q33 rfl).trans ((lv_osw q37 rfl).trans ((lv_osw q41 rfl).trans rfl))))))))))) (by decide) ?_
                            refine lv_iconst (v := 2) hx hb dX10_take_214 (by decide) ?_
                            exact xr_iret hx hb hr hlocks hE hJ hK hP hS h dX10_take_215
    · have h := if_n h q2
      refine lv_aload_n hx hb dX10_take_17 rfl (lv_at hl 0 rfl) ?_
      refine lv_aload_n hx hb dX10_take_18 rfl (lv_at hl 1 rfl) ?_
      obtain ⟨v47, σ48, hm49, h⟩ := bi_e h
      refine xr_calli (res := (v47, σ48)) (va_runV (As := [.ref (za Z (203 + r0))]) (rest := []) ⟨hx, hb, hml, hown, hts⟩ (k_X10_takeWithinBrackets l Z r0 hr0 σ  hm49) (cwV 1 hts gX10_take_X10_takeWithinBrackets rfl rfl rfl (by decide +kernel) ⟨Nat.le_of_ble_eq_true rfl, Nat.le_of_ble_eq_true rfl⟩) ⟨wx_blind, wr_recv hK hP (k := 166) (by decide) ((tX_WordReader Z) _ _ _) rfl, fun U hU hW => ⟨rfl, wx_at hE hJ hP hK hS hU hW⟩⟩ rfl rfl hl.1 rfl (lv_room (Nat.le_of_ble_eq_true rfl)) dX10_take_19 ⟨Nat.le_of_ble_eq_true rfl, Nat.le_of_ble_eq_true rfl⟩) hS (fun H locs hP hS => ?_)
      have hP : ws_P (zD Z) vwCl 211 (za Z) (tX Z) σ48 H := hP
      exact xr_iret hx hb hr hlocks hE hJ hK hP hS h dX10_take_22
  · have h := if_n h (fun z => z q1)
    refine lv_iconst (v := 1) hx hb dX10_take_8 (by decide) ?_
    exact xr_iret hx hb hr hlocks hE hJ hK hP hS h dX10_take_9
def m_X10_take  (r0 : Nat) (σ : SG)  : Option (Int32 × SG) := m_X10_take_0  r0 σ 
set_option maxHeartbeats 4000000 in
set_option maxRecDepth 100000 in
theorem k_X10_take (l : Launch) {E : EF} (Z : ZT)  (r0 : Nat) (hr0 : r0 < 2) (σ : SG)  {res : Int32 × SG} (h : m_X10_take  r0 σ  = some res) : Met l yX10_take wsX10_take rm_X10_take (va_Pc [.ref (za Z 166), .ref (za Z (203 + r0))] (wx E (zD Z) vwCl 211 (za Z) (tX Z) (tysX Z) σ)) (xQi E (zD Z) vwCl 211 (za Z) (tX Z) (tysX Z) res) 0 0 (ws_A 211 (za Z)) := by
  refine Met.ofW (cc := cX10_take) (maxL := 2) (ret := (some .int)) (by decide) rfl ?_
  intro p e s m args below meth c s₁ B hml hv
  obtain ⟨rfl, hE, hJ, hP, hK⟩ := hv
  have hl := lv_entry ([.ref (za Z 166), .ref (za Z (203 + r0))]) (n := 2) (Nat.le_of_ble_eq_true rfl)
  rw [lg_entry_eq]
  generalize (lg_sl ([.ref (za Z 166), .ref (za Z (203 + r0))]) ++ List.replicate (2 - (lg_sl ([.ref (za Z 166), .ref (za Z (203 + r0))])).length) Slot.unset).toArray = ls at hl ⊢
  exact kb_X10_take_0 Z  r0 hr0 ⟨B.exec, B.bytes, B.returns, B.notSynchronized, hml, findClass_of_methodNamed B.named, atoms_spec (ws := wsX10_take) B.pre, hE, hJ, hK⟩ σ  h s.heap [] hP va_S.rf ls hl
/-! TuneSearch$WordReader.read(LTuneSearch$Tape;LTuneSearch$Word;)I -/
abbrev rm_X10_read : Room := { frames := 5, cells := 0, slots := 0, locals := 114 }
theorem in_X10_read_X2 : ∀ w ∈ wsX20, w ∈ wsX10_read := by decide +kernel
theorem in_X10_read_X5 : ∀ w ∈ wsX50, w ∈ wsX10_read := by decide +kernel
theorem in_X10_read_X9 : ∀ w ∈ wsX90, w ∈ wsX10_read := by decide +kernel
theorem in_X10_read_X10 : ∀ w ∈ wsX100, w ∈ wsX10_read := by decide +kernel
def m_X10_read_74  (r1 : Nat)  (σ : SG)  : Option (Int32 × SG) :=
  gB (inB 0 9) (bi (m_X2_closeSeq ((0 : Int32).toNatClampNeg) r1 σ ) (fun v27 σ28 => gB (inB 0 9) (lS (sJ σ28 (203 + r1) 1 (σ28.2.1 (176 + (3 * (0 : Int32).toNatClampNeg)) 1)) (fun σ32 => gB (inB 0 9) (lS (sJ σ32 (203 + r1) 2 (σ32.2.1 (176 + (3 * (0 : Int32).toNatClampNeg)) 2)) (fun σ36 => some (0, σ36)))))))
set_option maxHeartbeats 4000000 in
set_option maxRecDepth 100000 in
theorem kb_X10_read_74 {p : Program} {l : Launch} {e : Env} {s : State} {m : MethodId} {args : Array Value} {below : List Frame} {meth : Method} {c : Code} {E : EF} (Z : ZT)  (r1 : Nat) (hr1 : r1 < 2) (C : cy p s m args meth c cX10_read (some .int) 5 RX10 wsX10_read E (zD Z) vwCl 211 (za Z) (tysX Z)) {res : Int32 × SG}   : ∀ (σ : SG)  , m_X10_read_74  r1  σ  = some res → ∀ (H : Heap) (locs : List Loc), ws_P (zD Z) vwCl 211 (za Z) (tX Z) σ H → va_S (ws_A 211 (za Z)) s.heap H locs → ∀ (ls : Array Slot), lv_has ls 5 [(0, .ref (za Z 166)), (2, .ref (za Z (203 + r1)))] → W p l e rm_X10_read s m args below meth c H locs 0 0 (MQ below (xQi E (zD Z) vwCl 211 (za Z) (tX Z) (tysX Z) res) args s 0 0 (ws_A 211 (za Z))) (F0 m 74 ls []) := by
  have C0 := C
  obtain ⟨hx, hb, hr, hlocks, hml, hown, hts, hE, hJ, hK⟩ := C0
  intro σ   h H locs hP hS ls hl
  unfold m_X10_read_74 at h
  refine lv_aload_n hx hb dX10_read_74 rfl (lv_at hl 0 rfl) ?_
  refine wr_get (C := RX10) (T := TX10) (N := 9) hx hb hts (in_X10_read_X10) hown hK hP (k := 166) (by decide) ((tX_WordReader Z) _ _ _) rfl 1 (by decide) (hts (.fieldLink RX10 11 "TuneSearch$WordReader" "levels" "[LTuneSearch$Level;") (by decide +kernel)) (fun _ h9 => h9) rfl dX10_read_75 ?_
  refine lv_iconst (v := 0) hx hb dX10_read_78 (by decide) ?_
  obtain ⟨b25, h⟩ := gB_e h
  have hi26 := inB_lt b25
  refine wr_aald hx hb hK hP (k := 149) (by decide) 4 rfl ((tX_levels Z) _ _ _) rfl b25 (row_at hi26) dX10_read_79 ?_
  refine lv_aload_n hx hb dX10_read_80 rfl (lv_at hl 1 rfl) ?_
  obtain ⟨v27, σ28, hm29, h⟩ := bi_e h
  refine xr_callv (res := (v27, σ28)) (va_runV (As := [.ref (za Z (203 + r1))]) (rest := []) ⟨hx, hb, hml, hown, hts⟩ (k_X2_closeSeq l Z ((0 : Int32).toNatClampNeg) r1 hi26 hr1 σ  hm29) (cwV 1 hts gX10_read_X2_closeSeq rfl rfl rfl (by decide +kernel) ⟨Nat.le_of_ble_eq_true rfl, Nat.le_of_ble_eq_true rfl⟩) ⟨wx_blind, wr_recv hK hP (k := (167 + (0 : Int32).toNatClampNeg)) (by omega) ((tX_Level Z (0 : Int32).toNatClampNeg hi26) _ _ _) rfl, fun U hU hW => ⟨rfl, wx_at hE hJ hP hK hS hU hW⟩⟩ rfl rfl hl.1 rfl (lv_room (Nat.le_of_ble_eq_true rfl)) dX10_read_81 ⟨Nat.le_of_ble_eq_true rfl, Nat.le_of_ble_eq_true rfl⟩) hS (fun H locs hP hS => ?_)
  have hP : ws_P (zD Z) vwCl 211 (za Z) (tX Z) σ28 H := hP
  refine lv_aload_n hx hb dX10_read_84 rfl (lv_at hl 1 rfl) ?_
  refine lv_aload_n hx hb dX10_read_85 rfl (lv_at hl 0 rfl) ?_
  refine wr_get (C := RX10) (T := TX10) (N := 9) hx hb hts (in_X10_read_X10) hown hK hP (k := 166) (by decide) ((tX_WordReader Z) _ _ _) rfl 1 (by decide) (hts (.fieldLink RX10 11 "TuneSearch$WordReader" "levels" "[LTuneSearch$Level;") (by decide +kernel)) (fun _ h9 => h9) rfl dX10_read_86 ?_
  refine lv_iconst (v := 0) hx hb dX10_read_89 (by decide) ?_
  obtain ⟨b30, h⟩ := gB_e h
  have hi31 := inB_lt b30
  refine wr_aald hx hb hK hP (k := 149) (by decide) 4 rfl ((tX_levels Z) _ _ _) rfl b30 (row_at hi31) dX10_read_90 ?_
  refine wr_get (C := RX2) (T := TX2) (N := 4) hx hb hts (in_X10_read_X2) hown hK hP (k := (167 + (0 : Int32).toNatClampNeg)) (by omega) ((tX_Level Z (0 : Int32).toNatClampNeg hi31) _ _ _) rfl 0 (by decide) (hts (.fieldLink RX10 51 "TuneSearch$Level" "choices" "LTuneSearch$Part;") (by decide +kernel)) (fun _ h9 => h9) rfl dX10_read_91 ?_
  refine wr_get (C := RX5) (T := TX5) (N := 3) hx hb hts (in_X10_read_X5) hown hK hP (k := (176 + (3 * (0 : Int32).toNatClampNeg))) (by omega) ((tX_Part Z (3 * (0 : Int32).toNatClampNeg) (by omega)) _ _ _) rfl 1 (by decide) (hts (.fieldLink RX10 55 "TuneSearch$Part" "first" "J") (by decide +kernel)) (fun _ h9 => h9) rfl dX10_read_94 ?_
  refine wr_put (C := RX9) (T := TX9) (N := 8) (σ' := sJ σ28 (203 + r1) 1 (σ28.2.1 (176 + (3 * (0 : Int32).toNatClampNeg)) 1)) (ty := .long) hx hb hts (in_X10_read_X9) tyX9 tyX9_ok nmX9 hown hK hP hJ hS (k := (203 + r1)) (by omega) ((tX_Word Z r1 hr1) _ _ _) rfl 1 (by decide) (hts (.fieldLink RX10 61 "TuneSearch$Word" "first" "J") (by decide +kernel)) (fun _ h9 => h9) rfl (by decide +kernel) rfl rfl (Nat.le_of_ble_eq_true rfl) (ws_pJ (tX_Word Z r1 hr1) rfl) dX10_read_97 (fun H locs hP hS => ?_)
  obtain ⟨σ32, e33, h⟩ := lS_e h
  rw [← e33] at hP
  refine lv_aload_n hx hb dX10_read_100 rfl (lv_at hl 1 rfl) ?_
  refine lv_aload_n hx hb dX10_read_101 rfl (lv_at hl 0 rfl) ?_
  refine wr_get (C := RX10) (T := TX10) (N := 9) hx hb hts (in_X10_read_X10) hown hK hP (k := 166) (by decide) ((tX_WordReader Z) _ _ _) rfl 1 (by decide) (hts (.fieldLink RX10 11 "TuneSearch$WordReader" "levels" "[LTuneSearch$Level;") (by decide +kernel)) (fun _ h9 => h9) rfl dX10_read_102 ?_
  refine lv_iconst (v := 0) hx hb dX10_read_105 (by decide) ?_
  obtain ⟨b34, h⟩ := gB_e h
  have hi35 := inB_lt b34
  refine wr_aald hx hb hK hP (k := 149) (by decide) 4 rfl ((tX_levels Z) _ _ _) rfl b34 (row_at hi35) dX10_read_106 ?_
  refine wr_get (C := RX2) (T := TX2) (N := 4) hx hb hts (in_X10_read_X2) hown hK hP (k := (167 + (0 : Int32).toNatClampNeg)) (by omega) ((tX_Level Z (0 : Int32).toNatClampNeg hi35) _ _ _) rfl 0 (by decide) (hts (.fieldLink RX10 51 "TuneSearch$Level" "choices" "LTuneSearch$Part;") (by decide +kernel)) (fun _ h9 => h9) rfl dX10_read_107 ?_
  refine wr_get (C := RX5) (T := TX5) (N := 3) hx hb hts (in_X10_read_X5) hown hK hP (k := (176 + (3 * (0 : Int32).toNatClampNeg))) (by omega) ((tX_Part Z (3 * (0 : Int32).toNatClampNeg) (by omega)) _ _ _) rfl 2 (by decide) (hts (.fieldLink RX10 62 "TuneSearch$Part" "last" "J") (by decide +kernel)) (fun _ h9 => h9) rfl dX10_read_110 ?_
  refine wr_put (C := RX9) (T := TX9) (N := 8) (σ' := sJ σ32 (203 + r1) 2 (σ32.2.1 (176 + (3 * (0 : Int32).toNatClampNeg)) 2)) (ty := .long) hx hb hts (in_X10_read_X9) tyX9 tyX9_ok nmX9 hown hK hP hJ hS (k := (203 + r1)) (by omega) ((tX_Word Z r1 hr1) _ _ _) rfl 2 (by decide) (hts (.fieldLink RX10 65 "TuneSearch$Word" "last" "J") (by decide +kernel)) (fun _ h9 => h9) rfl (by decide +kernel) rfl rfl (Nat.le_of_ble_eq_true rfl) (ws_pJ (tX_Word Z r1 hr1) rfl) dX10_read_113 (fun H locs hP hS => ?_)
  obtain ⟨σ36, e37, h⟩ := lS_e h
  rw [← e37] at hP
  refine lv_iconst (v := 0) hx hb dX10_read_116 (by decide) ?_
  exact xr_iret hx hb hr hlocks hE hJ hK hP hS h dX10_read_117
def m_X10_read_31_s  (r1 : Nat)  (c31 : SG → Int32 → Option (Int32 × SG)) (σ : SG) (l3 : Int32) : Option (Int32 × SG) :=
  if 160 < l3 then (m_X10_read_74  r1  σ ) else (bi (m_X10_readToken  σ ) (fun v15 σ16 => bi (m_X10_take r1 σ16 ) (fun v18 σ19 => if v18 = 0 then (if ¬ (σ19.1 166 4) = 0 then (lS (l3 + 1) (fun v23 => c31 σ19 v23)) else (m_X10_read_74  r1  σ19 )) else (some (v18, σ19)))))
def m_X10_read_31  (r1 : Nat)  : Nat → SG → Int32 → Option (Int32 × SG)
  | 0, _, _ => none
  | n + 1, σ, l3 => m_X10_read_31_s  r1  (m_X10_read_31  r1  n) σ l3
set_option maxHeartbeats 4000000 in
set_option maxRecDepth 100000 in
theorem kb_X10_read_31 {p : Program} {l : Launch} {e : Env} {s : State} {m : MethodId} {args : Array Value} {below : List Frame} {meth : Method} {c : Code} {E : EF} (Z : ZT)  (r1 : Nat) (hr1 : r1 < 2) (C : cy p s m args meth c cX10_read (some .int) 5 RX10 wsX10_read E (zD Z) vwCl 211 (za Z) (tysX Z)) {res : Int32 × SG}   : ∀ (n : Nat) (σ : SG) (l3 : Int32) , m_X10_read_31  r1  n σ l3 = some res → ∀ (H : Heap) (locs : List Loc), ws_P (zD Z) vwCl 211 (za Z) (tX Z) σ H → va_S (ws_A 211 (za Z)) s.heap H locs → ∀ (ls : Array Slot), lv_has ls 5 [(0, .ref (za Z 166)), (1, .ref (za Z 165)), (2, .ref (za Z (203 + r1))), (3, .int l3)] → W p l e rm_X10_read s m args below meth c H locs 0 0 (MQ below (xQi E (zD Z) vwCl 211 (za Z) (tX Z) (tysX Z) res) args s 0 0 (ws_A 211 (za Z))) (F0 m 31 ls []) := by
  have C0 := C
  obtain ⟨hx, hb, hr, hlocks, hml, hown, hts, hE, hJ, hK⟩ := C0
  intro n
  induction n with
  | zero =>
    intro σ l3  h
    cases h
  | succ n ih =>
    intro σ l3  h H locs hP hS ls hl
    have hc31 : ∀ (σ : SG) (l3 : Int32) , m_X10_read_31  r1  n σ l3 = some res → ∀ (H : Heap) (locs : List Loc), ws_P (zD Z) vwCl 211 (za Z) (tX Z) σ H → va_S (ws_A 211 (za Z)) s.heap H locs → ∀ (ls : Array Slot), lv_has ls 5 [(0, .ref (za Z 166)), (1, .ref (za Z 165)), (2, .ref (za Z (203 + r1))), (3, .int l3)] → W p l e rm_X10_read s m args below meth c H locs 0 0 (MQ below (xQi E (zD Z) vwCl 211 (za Z) (tX Z) (tysX Z) res) args s 0 0 (ws_A 211 (za Z))) (F0 m 31 ls []) := ih
    have h : m_X10_read_31_s  r1  (m_X10_read_31  r1  n) σ l3 = some res := h
    unfold m_X10_read_31_s at h
    refine lv_iload_n hx hb dX10_read_31 rfl (lv_at hl 3 rfl) ?_
    refine lv_sipush (v := 160) hx hb dX10_read_32 (by decide) ?_
    refine lv_icmp_gt (tgt := 74) hx hb dX10_read_35 (by decide) (fun q14 => ?_) (fun q14 => ?_)
    · have h := if_p h q14
      exact kb_X10_read_74 Z  r1 hr1 C   σ  h H locs hP hS ls (lv_sub hl [0, 2] rfl)
    · have h := if_n h q14
      refine lv_aload_n hx hb dX10_read_38 rfl (lv_at hl 0 rfl) ?_
      refine lv_aload_n hx hb dX10_read_39 rfl (lv_at hl 1 rfl) ?_
      obtain ⟨v15, σ16, hm17, h⟩ := bi_e h
      refine xr_callv (res := (v15, σ16)) (va_runV (As := [.ref (za Z 165)]) (rest := []) ⟨hx, hb, hml, hown, hts⟩ (k_X10_readToken l Z   σ  hm17) (cwV 1 hts gX10_read_X10_readToken rfl rfl rfl (by decide +kernel) ⟨Nat.le_of_ble_eq_true rfl, Nat.le_of_ble_eq_true rfl⟩) ⟨wx_blind, wr_recv hK hP (k := 166) (by decide) ((tX_WordReader Z) _ _ _) rfl, fun U hU hW => ⟨rfl, wx_at hE hJ hP hK hS hU hW⟩⟩ rfl rfl hl.1 rfl (lv_room (Nat.le_of_ble_eq_true rfl)) dX10_read_40 ⟨Nat.le_of_ble_eq_true rfl, Nat.le_of_ble_eq_true rfl⟩) hS (fun H locs hP hS => ?_)
      have hP : ws_P (zD Z) vwCl 211 (za Z) (tX Z) σ16 H := hP
      refine lv_aload_n hx hb dX10_read_43 rfl (lv_at hl 0 rfl) ?_
      refine lv_aload_n hx hb dX10_read_44 rfl (lv_at hl 2 rfl) ?_
      obtain ⟨v18, σ19, hm20, h⟩ := bi_e h
      refine xr_calli (res := (v18, σ19)) (va_runV (As := [.ref (za Z (203 + r1))]) (rest := []) ⟨hx, hb, hml, hown, hts⟩ (k_X10_take l Z r1 hr1 σ16  hm20) (cwV 1 hts gX10_read_X10_take rfl rfl rfl (by decide +kernel) ⟨Nat.le_of_ble_eq_true rfl, Nat.le_of_ble_eq_true rfl⟩) ⟨wx_blind, wr_recv hK hP (k := 166) (by decide) ((tX_WordReader Z) _ _ _) rfl, fun U hU hW => ⟨rfl, wx_at hE hJ hP hK hS hU hW⟩⟩ rfl rfl hl.1 rfl (lv_room (Nat.le_of_ble_eq_true rfl)) dX10_read_45 ⟨Nat.le_of_ble_eq_true rfl, Nat.le_of_ble_eq_true rfl⟩) hS (fun H locs hP hS => ?_)
      have hP : ws_P (zD Z) vwCl 211 (za Z) (tX Z) σ19 H := hP
      refine lv_istore (lv' := [(4, .int v18), (0, .ref (za Z 166)), (1, .ref (za Z 165)), (2, .ref (za Z (203 + r1))), (3, .int l3)]) hx hb dX10_read_48 hl (by decide) rfl (fun ls hl => ?_)
      refine lv_iload hx hb dX10_read_50 (lv_at hl 0 rfl) ?_
      refine lv_if_eq (tgt := 58) hx hb dX10_read_52 (by decide) (fun q21 => ?_) (fun q21 => ?_)
      · have h := if_p h q21
        refine lv_aload_n hx hb dX10_read_58 rfl (lv_at hl 1 rfl) ?_
        refine wr_get (C := RX10) (T := TX10) (N := 9) hx hb hts (in_X10_read_X10) hown hK hP (k := 166) (by decide) ((tX_WordReader Z) _ _ _) rfl 4 (by decide) (hts (.fieldLink RX10 44 "TuneSearch$WordReader" "token" "I") (by decide +kernel)) (fun _ h9 => h9) rfl dX10_read_59 ?_
        refine lv_if_ne (tgt := 68) hx hb dX10_read_62 (by decide) (fun q22 => ?_) (fun q22 => ?_)
        · have h := if_p h q22
          obtain ⟨v23, e24, h⟩ := lS_e h
          refine lv_iinc (v := v23) (lv' := [(3, .int v23), (4, .int v18), (0, .ref (za Z 166)), (1, .ref (za Z 165)), (2, .ref (za Z (203 + r1)))]) hx hb dX10_read_68 hl (k := 4) rfl (by rw [e24]; rfl) (by decide) rfl (fun ls hl => ?_)
          refine lv_goto (tgt := 31) hx hb dX10_read_71 (by decide) ?_
          exact hc31 σ19 v23 h H locs hP hS ls (lv_sub hl [2, 3, 4, 0] rfl)
        · have h := if_n h (fun z => z q22)
          refine lv_goto (tgt := 74) hx hb dX10_read_65 (by decide) ?_
          exact kb_X10_read_74 Z  r1 hr1 C   σ19  h H locs hP hS ls (lv_sub hl [1, 3] rfl)
      · have h := if_n h q21
        refine lv_iload hx hb dX10_read_55 (lv_at hl 0 rfl) ?_
        exact xr_iret hx hb hr hlocks hE hJ hK hP hS h dX10_read_57
def m_X10_read_0  (r1 : Nat)  (σ : SG)  : Option (Int32 × SG) :=
  lS (sI σ (203 + r1) 0 0) (fun σ1 => lS (sI σ1 166 3 0) (fun σ3 => lS (sI σ3 166 2 0) (fun σ5 => lS (sI σ5 166 6 0) (fun σ7 => gB (inB 0 9) (bi (m_X2_begin ((0 : Int32).toNatClampNeg) σ7 ) (fun v11 σ12 => m_X10_read_31  r1  FV σ12 0))))))
set_option maxHeartbeats 4000000 in
set_option maxRecDepth 100000 in
theorem kb_X10_read_0 {p : Program} {l : Launch} {e : Env} {s : State} {m : MethodId} {args : Array Value} {below : List Frame} {meth : Method} {c : Code} {E : EF} (Z : ZT)  (r1 : Nat) (hr1 : r1 < 2) (C : cy p s m args meth c cX10_read (some .int) 5 RX10 wsX10_read E (zD Z) vwCl 211 (za Z) (tysX Z)) {res : Int32 × SG}   : ∀ (σ : SG)  , m_X10_read_0  r1  σ  = some res → ∀ (H : Heap) (locs : List Loc), ws_P (zD Z) vwCl 211 (za Z) (tX Z) σ H → va_S (ws_A 211 (za Z)) s.heap H locs → ∀ (ls : Array Slot), lv_has ls 5 [(0, .ref (za Z 166)), (1, .ref (za Z 165)), (2, .ref (za Z (203 + r1)))] → W p l e rm_X10_read s m args below meth c H locs 0 0 (MQ below (xQi E (zD Z) vwCl 211 (za Z) (tX Z) (tysX Z) res) args s 0 0 (ws_A 211 (za Z))) (F0 m 0 ls []) := by
  have C0 := C
  obtain ⟨hx, hb, hr, hlocks, hml, hown, hts, hE, hJ, hK⟩ := C0
  intro σ   h H locs hP hS ls hl
  unfold m_X10_read_0 at h
  refine lv_aload_n hx hb dX10_read_0 rfl (lv_at hl 2 rfl) ?_
  refine lv_iconst (v := 0) hx hb dX10_read_1 (by decide) ?_
  refine wr_put (C := RX9) (T := TX9) (N := 8) (σ' := sI σ (203 + r1) 0 0) (ty := .int) hx hb hts (in_X10_read_X9) tyX9 tyX9_ok nmX9 hown hK hP hJ hS (k := (203 + r1)) (by omega) ((tX_Word Z r1 hr1) _ _ _) rfl 0 (by decide) (hts (.fieldLink RX10 16 "TuneSearch$Word" "atoms" "I") (by decide +kernel)) (fun _ h9 => h9) rfl (by decide +kernel) rfl rfl (Nat.le_of_ble_eq_true rfl) (ws_pI (tX_Word Z r1 hr1) rfl) dX10_read_2 (fun H locs hP hS => ?_)
  obtain ⟨σ1, e2, h⟩ := lS_e h
  rw [← e2] at hP
  refine lv_aload_n hx hb dX10_read_5 rfl (lv_at hl 0 rfl) ?_
  refine lv_iconst (v := 0) hx hb dX10_read_6 (by decide) ?_
  refine wr_put (C := RX10) (T := TX10) (N := 9) (σ' := sI σ1 166 3 0) (ty := .int) hx hb hts (in_X10_read_X10) tyX10 tyX10_ok nmX10 hown hK hP hJ hS (k := 166) (by decide) ((tX_WordReader Z) _ _ _) rfl 3 (by decide) (hts (.fieldLink RX10 22 "TuneSearch$WordReader" "next" "I") (by decide +kernel)) (fun _ h9 => h9) rfl (by decide +kernel) rfl rfl (Nat.le_of_ble_eq_true rfl) (ws_pI (tX_WordReader Z) rfl) dX10_read_7 (fun H locs hP hS => ?_)
  obtain ⟨σ3, e4, h⟩ := lS_e h
  rw [← e4] at hP
  refine lv_aload_n hx hb dX10_read_10 rfl (lv_at hl 0 rfl) ?_
  refine lv_iconst (v := 0) hx hb dX10_read_11 (by decide) ?_
  refine wr_put (C := RX10) (T := TX10) (N := 9) (σ' := sI σ3 166 2 0) (ty := .int) hx hb hts (in_X10_read_X10) tyX10 tyX10_ok nmX10 hown hK hP hJ hS (k := 166) (by decide) ((tX_WordReader Z) _ _ _) rfl 2 (by decide) (hts (.fieldLink RX10 25 "TuneSearch$WordReader" "depth" "I") (by decide +kernel)) (fun _ h9 => h9) rfl (by decide +kernel) rfl rfl (Nat.le_of_ble_eq_true rfl) (ws_pI (tX_WordReader Z) rfl) dX10_read_12 (fun H locs hP hS => ?_)
  obtain ⟨σ5, e6, h⟩ := lS_e h
  rw [← e6] at hP
  refine lv_aload_n hx hb dX10_read_15 rfl (lv_at hl 0 rfl) ?_
  refine lv_iconst (v := 0) hx hb dX10_read_16 (by decide) ?_
  refine wr_put (C := RX10) (T := TX10) (N := 9) (σ' := sI σ5 166 6 0) (ty := .int) hx hb hts (in_X10_read_X10) tyX10 tyX10_ok nmX10 hown hK hP hJ hS (k := 166) (by decide) ((tX_WordReader Z) _ _ _) rfl 6 (by decide) (hts (.fieldLink RX10 28 "TuneSearch$WordReader" "awaited" "I") (by decide +kernel)) (fun _ h9 => h9) rfl (by decide +kernel) rfl rfl (Nat.le_of_ble_eq_true rfl) (ws_pI (tX_WordReader Z) rfl) dX10_read_17 (fun H locs hP hS => ?_)
  obtain ⟨σ7, e8, h⟩ := lS_e h
  rw [← e8] at hP
  refine lv_aload_n hx hb dX10_read_20 rfl (lv_at hl 0 rfl) ?_
  refine wr_get (C := RX10) (T := TX10) (N := 9) hx hb hts (in_X10_read_X10) hown hK hP (k := 166) (by decide) ((tX_WordReader Z) _ _ _) rfl 1 (by decide) (hts (.fieldLink RX10 11 "TuneSearch$WordReader" "levels" "[LTuneSearch$Level;") (by decide +kernel)) (fun _ h9 => h9) rfl dX10_read_21 ?_
  refine lv_iconst (v := 0) hx hb dX10_read_24 (by decide) ?_
  obtain ⟨b9, h⟩ := gB_e h
  have hi10 := inB_lt b9
  refine wr_aald hx hb hK hP (k := 149) (by decide) 4 rfl ((tX_levels Z) _ _ _) rfl b9 (row_at hi10) dX10_read_25 ?_
  obtain ⟨v11, σ12, hm13, h⟩ := bi_e h
  refine xr_callv (res := (v11, σ12)) (va_runV (As := []) (rest := []) ⟨hx, hb, hml, hown, hts⟩ (k_X2_begin l Z ((0 : Int32).toNatClampNeg) hi10 σ7  hm13) (cwV 0 hts gX10_read_X2_begin rfl rfl rfl (by decide +kernel) ⟨Nat.le_of_ble_eq_true rfl, Nat.le_of_ble_eq_true rfl⟩) ⟨wx_blind, wr_recv hK hP (k := (167 + (0 : Int32).toNatClampNeg)) (by omega) ((tX_Level Z (0 : Int32).toNatClampNeg hi10) _ _ _) rfl, fun U hU hW => ⟨rfl, wx_at hE hJ hP hK hS hU hW⟩⟩ rfl rfl hl.1 rfl (lv_room (Nat.le_of_ble_eq_true rfl)) dX10_read_26 ⟨Nat.le_of_ble_eq_true rfl, Nat.le_of_ble_eq_true rfl⟩) hS (fun H locs hP hS => ?_)
  have hP : ws_P (zD Z) vwCl 211 (za Z) (tX Z) σ12 H := hP
  refine lv_iconst (v := 0) hx hb dX10_read_29 (by decide) ?_
  refine lv_istore_n (lv' := [(3, .int 0), (0, .ref (za Z 166)), (1, .ref (za Z 165)), (2, .ref (za Z (203 + r1)))]) hx hb dX10_read_30 rfl hl (by decide) rfl (fun ls hl => ?_)
  exact kb_X10_read_31 Z  r1 hr1 C   FV σ12 0 h H locs hP hS ls (lv_sub hl [1, 2, 3, 0] rfl)
def m_X10_read  (r1 : Nat) (σ : SG)  : Option (Int32 × SG) := m_X10_read_0  r1 σ 
set_option maxHeartbeats 4000000 in
set_option maxRecDepth 100000 in
theorem k_X10_read (l : Launch) {E : EF} (Z : ZT)  (r1 : Nat) (hr1 : r1 < 2) (σ : SG)  {res : Int32 × SG} (h : m_X10_read  r1 σ  = some res) : Met l yX10_read wsX10_read rm_X10_read (va_Pc [.ref (za Z 166), .ref (za Z 165), .ref (za Z (203 + r1))] (wx E (zD Z) vwCl 211 (za Z) (tX Z) (tysX Z) σ)) (xQi E (zD Z) vwCl 211 (za Z) (tX Z) (tysX Z) res) 0 0 (ws_A 211 (za Z)) := by
  refine Met.ofW (cc := cX10_read) (maxL := 5) (ret := (some .int)) (by decide) rfl ?_
  intro p e s m args below meth c s₁ B hml hv
  obtain ⟨rfl, hE, hJ, hP, hK⟩ := hv
  have hl := lv_entry ([.ref (za Z 166), .ref (za Z 165), .ref (za Z (203 + r1))]) (n := 5) (Nat.le_of_ble_eq_true rfl)
  rw [lg_entry_eq]
  generalize (lg_sl ([.ref (za Z 166), .ref (za Z 165), .ref (za Z (203 + r1))]) ++ List.replicate (5 - (lg_sl ([.ref (za Z 166), .ref (za Z 165), .ref (za Z (203 + r1))])).length) Slot.unset).toArray = ls at hl ⊢
  exact kb_X10_read_0 Z  r1 hr1 ⟨B.exec, B.bytes, B.returns, B.notSynchronized, hml, findClass_of_methodNamed B.named, atoms_spec (ws := wsX10_read) B.pre, hE, hJ, hK⟩ σ  h s.heap [] hP va_S.rf ls hl
