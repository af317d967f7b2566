/-! TuneSearch$Load.fill(LTuneSearch$NoteRow;)V -/
abbrev rm_X3_fill : Room := { frames := 1, cells := 0, slots := 0, locals := 21 }
theorem in_X3_fill_X3 : ∀ w ∈ wsX30, w ∈ wsX3_fill := by decide +kernel
theorem in_X3_fill_X4 : ∀ w ∈ wsX40, w ∈ wsX3_fill := by decide +kernel
def m_X3_fill_95  (o : Nat) (r0 : Nat) (c14 : SG → Int32 → Int32 → Option (Unit × SG)) (σ : SG) (l2 : Int32) (l3 : Int32) : Option (Unit × SG) :=
  gB (inB l3 (lenX (2 * r0 + 1))) (lS (l2 + (σ.1 (2 * r0 + 1) l3.toNatClampNeg)) (fun v27 => lS (l3 + 1) (fun v29 => c14 σ v27 v29)))
set_option maxHeartbeats 4000000 in
set_option maxRecDepth 100000 in
theorem kb_X3_fill_95 {p : Program} {l : Launch} {e : Env} {s : State} {m : MethodId} {args : Array Value} {below : List Frame} {meth : Method} {c : Code} {E : EF} (Z : ZT)  (o : Nat) (r0 : Nat) (ho : o < 2) (hr0 : r0 < 9) (C : cy p s m args meth c cX3_fill none 4 RX3 wsX3_fill E (zD Z) vwCl 211 (za Z) (tysX Z)) {res : Unit × SG} {c14 : SG → Int32 → Int32 → Option (Unit × SG)} (hc14 : ∀ (σ : SG) (l2 : Int32) (l3 : Int32) , c14 σ l2 l3 = some res → ∀ (H : Heap) (locs : List Loc), ws_P (zD Z) vwCl 211 (za Z) (tX Z) σ H → va_S (ws_A 211 (za Z)) s.heap H locs → ∀ (ls : Array Slot), lv_has ls 4 [(0, .ref (za Z (208 + o))), (1, .ref (za Z (156 + r0))), (2, .int l2), (3, .int l3)] → W p l e rm_X3_fill s m args below meth c H locs 0 0 (MQ below (xQv E (zD Z) vwCl 211 (za Z) (tX Z) (tysX Z) res) args s 0 0 (ws_A 211 (za Z))) (F0 m 14 ls [])) : ∀ (σ : SG) (l2 : Int32) (l3 : Int32) , m_X3_fill_95  o r0 c14 σ l2 l3 = some res → ∀ (H : Heap) (locs : List Loc), ws_P (zD Z) vwCl 211 (za Z) (tX Z) σ H → va_S (ws_A 211 (za Z)) s.heap H locs → ∀ (ls : Array Slot), lv_has ls 4 [(0, .ref (za Z (208 + o))), (1, .ref (za Z (156 + r0))), (2, .int l2), (3, .int l3)] → W p l e rm_X3_fill s m args below meth c H locs 0 0 (MQ below (xQv E (zD Z) vwCl 211 (za Z) (tX Z) (tysX Z) res) args s 0 0 (ws_A 211 (za Z))) (F0 m 95 ls []) := by
  have C0 := C
  obtain ⟨hx, hb, hr, hlocks, hml, hown, hts, hE, hJ, hK⟩ := C0
  intro σ l2 l3  h H locs hP hS ls hl
  unfold m_X3_fill_95 at h
  refine lv_iload_n hx hb dX3_fill_95 rfl (lv_at hl 2 rfl) ?_
  refine lv_aload_n hx hb dX3_fill_96 rfl (lv_at hl 1 rfl) ?_
  refine wr_get (C := RX4) (T := TX4) (N := 3) hx hb hts (in_X3_fill_X4) hown hK hP (k := (156 + r0)) (by omega) ((tX_NoteRow Z r0 hr0) _ _ _) rfl 1 (by decide) (hts (.fieldLink RX3 36 "TuneSearch$NoteRow" "lengths" "[I") (by decide +kernel)) (fun _ h9 => h9) rfl dX3_fill_97 ?_
  refine lv_iload_n hx hb dX3_fill_100 rfl (lv_at hl 3 rfl) ?_
  obtain ⟨b26, h⟩ := gB_e h
  refine wr_iald hx hb hK hP (k := (2 * r0 + 1)) (by omega) 0 ((tX_I Z (2 * r0 + 1) (by omega)) _ _ _) rfl b26 dX3_fill_101 ?_
  refine lv_iadd hx hb dX3_fill_102 ?_
  refine lv_topi (fun v27 e28 => ?_)
  have h := lS_u h e28
  refine lv_istore_n (lv' := [(2, .int v27), (0, .ref (za Z (208 + o))), (1, .ref (za Z (156 + r0))), (3, .int l3)]) hx hb dX3_fill_103 rfl hl (by decide) rfl (fun ls hl => ?_)
  obtain ⟨v29, e30, h⟩ := lS_e h
  refine lv_iinc (v := v29) (lv' := [(3, .int v29), (2, .int v27), (0, .ref (za Z (208 + o))), (1, .ref (za Z (156 + r0)))]) hx hb dX3_fill_104 hl (k := 3) rfl (by rw [e30]; rfl) (by decide) rfl (fun ls hl => ?_)
  refine lv_goto (tgt := 14) hx hb dX3_fill_107 (by decide) ?_
  exact hc14 σ v27 v29 h H locs hP hS ls (lv_sub hl [2, 3, 1, 0] rfl)
def m_X3_fill_14_s  (o : Nat) (r0 : Nat)  (c14 : SG → Int32 → Int32 → Option (Unit × SG)) (σ : SG) (l2 : Int32) (l3 : Int32) : Option (Unit × SG) :=
  if (σ.1 (156 + r0) 2) ≤ l3 then (some ((), σ)) else (bi (m_X4_isRest r0 σ l3) (fun v6 σ7 => if ¬ v6 = 0 then (m_X3_fill_95  o r0 c14 σ7 l2 l3) else (gB (inB l3 (lenX (2 * r0))) (gB (inB (σ7.1 (208 + o) 3) 24) (lS (sI σ7 (28 + o) (σ7.1 (208 + o) 3).toNatClampNeg (σ7.1 (2 * r0) l3.toNatClampNeg)) (fun σ12 => gB (inB (σ12.1 (208 + o) 3) 24) (lS (sI σ12 (30 + o) (σ12.1 (208 + o) 3).toNatClampNeg l2) (fun σ15 => gB (inB l3 (lenX (2 * r0 + 1))) (gB (inB (σ15.1 (208 + o) 3) 24) (lS (sI σ15 (32 + o) (σ15.1 (208 + o) 3).toNatClampNeg (σ15.1 (2 * r0 + 1) l3.toNatClampNeg)) (fun σ19 => gB (inB l3 (lenX (2 * r0 + 1))) (lS (sI σ19 (208 + o) 4 ((σ19.1 (208 + o) 4) + (σ19.1 (2 * r0 + 1) l3.toNatClampNeg))) (fun σ22 => lS (sI σ22 (208 + o) 3 ((σ22.1 (208 + o) 3) + 1)) (fun σ24 => m_X3_fill_95  o r0 c14 σ24 l2 l3))))))))))))))
def m_X3_fill_14  (o : Nat) (r0 : Nat)  : Nat → SG → Int32 → Int32 → Option (Unit × SG)
  | 0, _, _, _ => none
  | n + 1, σ, l2, l3 => m_X3_fill_14_s  o r0  (m_X3_fill_14  o r0  n) σ l2 l3
set_option maxHeartbeats 4000000 in
set_option maxRecDepth 100000 in
theorem kb_X3_fill_14 {p : Program} {l : Launch} {e : Env} {s : State} {m : MethodId} {args : Array Value} {below : List Frame} {meth : Method} {c : Code} {E : EF} (Z : ZT)  (o : Nat) (r0 : Nat) (ho : o < 2) (hr0 : r0 < 9) (C : cy p s m args meth c cX3_fill none 4 RX3 wsX3_fill E (zD Z) vwCl 211 (za Z) (tysX Z)) {res : Unit × SG}   : ∀ (n : Nat) (σ : SG) (l2 : Int32) (l3 : Int32) , m_X3_fill_14  o r0  n σ l2 l3 = some res → ∀ (H : Heap) (locs : List Loc), ws_P (zD Z) vwCl 211 (za Z) (tX Z) σ H → va_S (ws_A 211 (za Z)) s.heap H locs → ∀ (ls : Array Slot), lv_has ls 4 [(0, .ref (za Z (208 + o))), (1, .ref (za Z (156 + r0))), (2, .int l2), (3, .int l3)] → W p l e rm_X3_fill s m args below meth c H locs 0 0 (MQ below (xQv E (zD Z) vwCl 211 (za Z) (tX Z) (tysX Z) res) args s 0 0 (ws_A 211 (za Z))) (F0 m 14 ls []) := by
  have C0 := C
  obtain ⟨hx, hb, hr, hlocks, hml, hown, hts, hE, hJ, hK⟩ := C0
  intro n
  induction n with
  | zero =>
    intro σ l2 l3  h
    cases h
  | succ n ih =>
    intro σ l2 l3  h H locs hP hS ls hl
    have hc14 : ∀ (σ : SG) (l2 : Int32) (l3 : Int32) , m_X3_fill_14  o r0  n σ l2 l3 = some res → ∀ (H : Heap) (locs : List Loc), ws_P (zD Z) vwCl 211 (za Z) (tX Z) σ H → va_S (ws_A 211 (za Z)) s.heap H locs → ∀ (ls : Array Slot), lv_has ls 4 [(0, .ref (za Z (208 + o))), (1, .ref (za Z (156 + r0))), (2, .int l2), (3, .int l3)] → W p l e rm_X3_fill s m args below meth c H locs 0 0 (MQ below (xQv E (zD Z) vwCl 211 (za Z) (tX Z) (tysX Z) res) args s 0 0 (ws_A 211 (za Z))) (F0 m 14 ls []) := ih
    have h : m_X3_fill_14_s  o r0  (m_X3_fill_14  o r0  n) σ l2 l3 = some res := h
    unfold m_X3_fill_14_s at h
    refine lv_iload_n hx hb dX3_fill_14 rfl (lv_at hl 3 rfl) ?_
    refine lv_aload_n hx hb dX3_fill_15 rfl (lv_at hl 1 rfl) ?_
    refine wr_get (C := RX4) (T := TX4) (N := 3) hx hb hts (in_X3_fill_X4) hown hK hP (k := (156 + r0)) (by omega) ((tX_NoteRow Z r0 hr0) _ _ _) rfl 2 (by decide) (hts (.fieldLink RX3 28 "TuneSearch$NoteRow" "count" "I") (by decide +kernel)) (fun _ h9 => h9) rfl dX3_fill_16 ?_
    refine lv_icmp_ge (tgt := 110) hx hb dX3_fill_19 (by decide) (fun q5 => ?_) (fun q5 => ?_)
    · have h := if_p h q5
      exact xr_vret hx hb hr hlocks hE hJ hK hP hS h dX3_fill_110
    · have h := if_n h q5
      refine lv_aload_n hx hb dX3_fill_22 rfl (lv_at hl 1 rfl) ?_
      refine lv_iload_n hx hb dX3_fill_23 rfl (lv_at hl 3 rfl) ?_
      obtain ⟨v6, σ7, hm8, h⟩ := bi_e h
      refine xr_calli (res := (v6, σ7)) (va_runV (As := [.int l3]) (rest := []) ⟨hx, hb, hml, hown, hts⟩ (k_X4_isRest l Z r0 hr0 σ l3 hm8) (cwV 1 hts gX3_fill_X4_isRest rfl rfl rfl (by decide +kernel) ⟨Nat.le_of_ble_eq_true rfl, Nat.le_of_ble_eq_true rfl⟩) ⟨wx_blind, wr_recv hK hP (k := (156 + r0)) (by omega) ((tX_NoteRow Z r0 hr0) _ _ _) rfl, fun U hU hW => ⟨rfl, wx_at hE hJ hP hK hS hU hW⟩⟩ rfl rfl hl.1 rfl (lv_room (Nat.le_of_ble_eq_true rfl)) dX3_fill_24 ⟨Nat.le_of_ble_eq_true rfl, Nat.le_of_ble_eq_true rfl⟩) hS (fun H locs hP hS => ?_)
      have hP : ws_P (zD Z) vwCl 211 (za Z) (tX Z) σ7 H := hP
      refine lv_if_ne (tgt := 95) hx hb dX3_fill_27 (by decide) (fun q9 => ?_) (fun q9 => ?_)
      · have h := if_p h q9
        exact kb_X3_fill_95 Z  o r0 ho hr0 C  hc14 σ7 l2 l3 h H locs hP hS ls (lv_sub hl [0, 1, 2, 3] rfl)
      · have h := if_n h (fun z => z q9)
        refine lv_aload_n hx hb dX3_fill_30 rfl (lv_at hl 0 rfl) ?_
        refine wr_get (C := RX3) (T := TX3) (N := 5) hx hb hts (in_X3_fill_X3) hown hK hP (k := (208 + o)) (by omega) ((tX_Load Z o ho) _ _ _) rfl 0 (by decide) (hts (.fieldLink RX3 9 "TuneSearch$Load" "pitches" "[I") (by decide +kernel)) (fun _ h9 => h9) rfl dX3_fill_31 ?_
        refine lv_aload_n hx hb dX3_fill_34 rfl (lv_at hl 0 rfl) ?_
        refine wr_get (C := RX3) (T := TX3) (N := 5) hx hb hts (in_X3_fill_X3) hown hK hP (k := (208 + o)) (by omega) ((tX_Load Z o ho) _ _ _) rfl 3 (by decide) (hts (.fieldLink RX3 21 "TuneSearch$Load" "count" "I") (by decide +kernel)) (fun _ h9 => h9) rfl dX3_fill_35 ?_
        refine lv_aload_n hx hb dX3_fill_38 rfl (lv_at hl 1 rfl) ?_
        refine wr_get (C := RX4) (T := TX4) (N := 3) hx hb hts (in_X3_fill_X4) hown hK hP (k := (156 + r0)) (by omega) ((tX_NoteRow Z r0 hr0) _ _ _) rfl 0 (by decide) (hts (.fieldLink RX3 35 "TuneSearch$NoteRow" "pitches" "[I") (by decide +kernel)) (fun _ h9 => h9) rfl dX3_fill_39 ?_
        refine lv_iload_n hx hb dX3_fill_42 rfl (lv_at hl 3 rfl) ?_
        obtain ⟨b10, h⟩ := gB_e h
        refine wr_iald hx hb hK hP (k := (2 * r0)) (by omega) 0 ((tX_I Z (2 * r0) (by omega)) _ _ _) rfl b10 dX3_fill_43 ?_
        obtain ⟨b11, h⟩ := gB_e h
        refine wr_iast hx hb hK hP hJ hS (k := (28 + o)) (by omega) 0 (tX_ld_pitches Z o ho) rfl b11 dX3_fill_44 (fun H locs hP hS => ?_)
        obtain ⟨σ12, e13, h⟩ := lS_e h
        rw [← e13] at hP
        refine lv_aload_n hx hb dX3_fill_45 rfl (lv_at hl 0 rfl) ?_
        refine wr_get (C := RX3) (T := TX3) (N := 5) hx hb hts (in_X3_fill_X3) hown hK hP (k := (208 + o)) (by omega) ((tX_Load Z o ho) _ _ _) rfl 1 (by decide) (hts (.fieldLink RX3 15 "TuneSearch$Load" "begins" "[I") (by decide +kernel)) (fun _ h9 => h9) rfl dX3_fill_46 ?_
        refine lv_aload_n hx hb dX3_fill_49 rfl (lv_at hl 0 rfl) ?_
        refine wr_get (C := RX3) (T := TX3) (N := 5) hx hb hts (in_X3_fill_X3) hown hK hP (k := (208 + o)) (by omega) ((tX_Load Z o ho) _ _ _) rfl 3 (by decide) (hts (.fieldLink RX3 21 "TuneSearch$Load" "count" "I") (by decide +kernel)) (fun _ h9 => h9) rfl dX3_fill_50 ?_
        refine lv_iload_n hx hb dX3_fill_53 rfl (lv_at hl 2 rfl) ?_
        obtain ⟨b14, h⟩ := gB_e h
        refine wr_iast hx hb hK hP hJ hS (k := (30 + o)) (by omega) 0 (tX_ld_begins Z o ho) rfl b14 dX3_fill_54 (fun H locs hP hS => ?_)
        obtain ⟨σ15, e16, h⟩ := lS_e h
        rw [← e16] at hP
        refine lv_aload_n hx hb dX3_fill_55 rfl (lv_at hl 0 rfl) ?_
        refine wr_get (C := RX3) (T := TX3) (N := 5) hx hb hts (in_X3_fill_X3) hown hK hP (k := (208 + o)) (by omega) ((tX_Load Z o ho) _ _ _) rfl 2 (by decide) (hts (.fieldLink RX3 18 "TuneSearch$Load" "left" "[I") (by decide +kernel)) (fun _ h9 => h9) rfl dX3_fill_56 ?_
        refine lv_aload_n hx hb dX3_fill_59 rfl (lv_at hl 0 rfl) ?_
        refine wr_get (C := RX3) (T := TX3) (N := 5) hx hb hts (in_X3_fill_X3) hown hK hP (k := (208 + o)) (by omega) ((tX_Load Z o ho) _ _ _) rfl 3 (by decide) (hts (.fieldLink RX3 21 "TuneSearch$Load" "count" "I") (by decide +kernel)) (fun _ h9 => h9) rfl dX3_fill_60 ?_
        refine lv_aload_n hx hb dX3_fill_63 rfl (lv_at hl 1 rfl) ?_
        refine wr_get (C := RX4) (T := TX4) (N := 3) hx hb hts (in_X3_fill_X4) hown hK hP (k := (156 + r0)) (by omega) ((tX_NoteRow Z r0 hr0) _ _ _) rfl 1 (by decide) (hts (.fieldLink RX3 36 "TuneSearch$NoteRow" "lengths" "[I") (by decide +kernel)) (fun _ h9 => h9) rfl dX3_fill_64 ?_
        refine lv_iload_n hx hb dX3_fill_67 rfl (lv_at hl 3 rfl) ?_
        obtain ⟨b17, h⟩ := gB_e h
        refine wr_iald hx hb hK hP (k := (2 * r0 + 1)) (by omega) 0 ((tX_I Z (2 * r0 + 1) (by omega)) _ _ _) rfl b17 dX3_fill_68 ?_
        obtain ⟨b18, h⟩ := gB_e h
        refine wr_iast hx hb hK hP hJ hS (k := (32 + o)) (by omega) 0 (tX_ld_left Z o ho) rfl b18 dX3_fill_69 (fun H locs hP hS => ?_)
        obtain ⟨σ19, e20, h⟩ := lS_e h
        rw [← e20] at hP
        refine lv_aload_n hx hb dX3_fill_70 rfl (lv_at hl 0 rfl) ?_
        refine lv_dup hx hb dX3_fill_71 rfl ?_
        refine wr_get (C := RX3) (T := TX3) (N := 5) hx hb hts (in_X3_fill_X3) hown hK hP (k := (208 + o)) (by omega) ((tX_Load Z o ho) _ _ _) rfl 4 (by decide) (hts (.fieldLink RX3 25 "TuneSearch$Load" "units" "I") (by decide +kernel)) (fun _ h9 => h9) rfl dX3_fill_72 ?_
        refine lv_aload_n hx hb dX3_fill_75 rfl (lv_at hl 1 rfl) ?_
        refine wr_get (C := RX4) (T := TX4) (N := 3) hx hb hts (in_X3_fill_X4) hown hK hP (k := (156 + r0)) (by omega) ((tX_NoteRow Z r0 hr0) _ _ _) rfl 1 (by decide) (hts (.fieldLink RX3 36 "TuneSearch$NoteRow" "lengths" "[I") (by decide +kernel)) (fun _ h9 => h9) rfl dX3_fill_76 ?_
        refine lv_iload_n hx hb dX3_fill_79 rfl (lv_at hl 3 rfl) ?_
        obtain ⟨b21, h⟩ := gB_e h
        refine wr_iald hx hb hK hP (k := (2 * r0 + 1)) (by omega) 0 ((tX_I Z (2 * r0 + 1) (by omega)) _ _ _) rfl b21 dX3_fill_80 ?_
        refine lv_iadd hx hb dX3_fill_81 ?_
        refine wr_put (C := RX3) (T := TX3) (N := 5) (σ' := sI σ19 (208 + o) 4 ((σ19.1 (208 + o) 4) + (σ19.1 (2 * r0 + 1) l3.toNatClampNeg))) (ty := .int) hx hb hts (in_X3_fill_X3) tyX3 tyX3_ok nmX3 hown hK hP hJ hS (k := (208 + o)) (by omega) ((tX_Load Z o ho) _ _ _) rfl 4 (by decide) (hts (.fieldLink RX3 25 "TuneSearch$Load" "units" "I") (by decide +kernel)) (fun _ h9 => h9) rfl (by decide +kernel) rfl rfl (Nat.le_of_ble_eq_true rfl) (ws_pI (tX_Load Z o ho) rfl) dX3_fill_82 (fun H locs hP hS => ?_)
        obtain ⟨σ22, e23, h⟩ := lS_e h
        rw [← e23] at hP
        refine lv_aload_n hx hb dX3_fill_85 rfl (lv_at hl 0 rfl) ?_
        refine lv_dup hx hb dX3_fill_86 rfl ?_
        refine wr_get (C := RX3) (T := TX3) (N := 5) hx hb hts (in_X3_fill_X3) hown hK hP (k := (208 + o)) (by omega) ((tX_Load Z o ho) _ _ _) rfl 3 (by decide) (hts (.fieldLink RX3 21 "TuneSearch$Load" "count" "I") (by decide +kernel)) (fun _ h9 => h9) rfl dX3_fill_87 ?_
        refine lv_iconst (v := 1) hx hb dX3_fill_90 (by decide) ?_
        refine lv_iadd hx hb dX3_fill_91 ?_
        refine wr_put (C := RX3) (T := TX3) (N := 5) (σ' := sI σ22 (208 + o) 3 ((σ22.1 (208 + o) 3) + 1)) (ty := .int) hx hb hts (in_X3_fill_X3) tyX3 tyX3_ok nmX3 hown hK hP hJ hS (k := (208 + o)) (by omega) ((tX_Load Z o ho) _ _ _) rfl 3 (by decide) (hts (.fieldLink RX3 21 "TuneSearch$Load" "count" "I") (by decide +kernel)) (fun _ h9 => h9) rfl (by decide +kernel) rfl rfl (Nat.le_of_ble_eq_true rfl) (ws_pI (tX_Load Z o ho) rfl) dX3_fill_92 (fun H locs hP hS => ?_)
        obtain ⟨σ24, e25, h⟩ := lS_e h
        rw [← e25] at hP
        exact kb_X3_fill_95 Z  o r0 ho hr0 C  hc14 σ24 l2 l3 h H locs hP hS ls (lv_sub hl [0, 1, 2, 3] rfl)
def m_X3_fill_0  (o : Nat) (r0 : Nat)  (σ : SG)  : Option (Unit × SG) :=
  lS (sI σ (208 + o) 3 0) (fun σ1 => lS (sI σ1 (208 + o) 4 0) (fun σ3 => m_X3_fill_14  o r0  FV σ3 0 0))
set_option maxHeartbeats 4000000 in
set_option maxRecDepth 100000 in
theorem kb_X3_fill_0 {p : Program} {l : Launch} {e : Env} {s : State} {m : MethodId} {args : Array Value} {below : List Frame} {meth : Method} {c : Code} {E : EF} (Z : ZT)  (o : Nat) (r0 : Nat) (ho : o < 2) (hr0 : r0 < 9) (C : cy p s m args meth c cX3_fill none 4 RX3 wsX3_fill E (zD Z) vwCl 211 (za Z) (tysX Z)) {res : Unit × SG}   : ∀ (σ : SG)  , m_X3_fill_0  o r0  σ  = some res → ∀ (H : Heap) (locs : List Loc), ws_P (zD Z) vwCl 211 (za Z) (tX Z) σ H → va_S (ws_A 211 (za Z)) s.heap H locs → ∀ (ls : Array Slot), lv_has ls 4 [(0, .ref (za Z (208 + o))), (1, .ref (za Z (156 + r0)))] → W p l e rm_X3_fill s m args below meth c H locs 0 0 (MQ below (xQv E (zD Z) vwCl 211 (za Z) (tX Z) (tysX Z) res) args s 0 0 (ws_A 211 (za Z))) (F0 m 0 ls []) := by
  have C0 := C
  obtain ⟨hx, hb, hr, hlocks, hml, hown, hts, hE, hJ, hK⟩ := C0
  intro σ   h H locs hP hS ls hl
  unfold m_X3_fill_0 at h
  refine lv_aload_n hx hb dX3_fill_0 rfl (lv_at hl 0 rfl) ?_
  refine lv_iconst (v := 0) hx hb dX3_fill_1 (by decide) ?_
  refine wr_put (C := RX3) (T := TX3) (N := 5) (σ' := sI σ (208 + o) 3 0) (ty := .int) hx hb hts (in_X3_fill_X3) tyX3 tyX3_ok nmX3 hown hK hP hJ hS (k := (208 + o)) (by omega) ((tX_Load Z o ho) _ _ _) rfl 3 (by decide) (hts (.fieldLink RX3 21 "TuneSearch$Load" "count" "I") (by decide +kernel)) (fun _ h9 => h9) rfl (by decide +kernel) rfl rfl (Nat.le_of_ble_eq_true rfl) (ws_pI (tX_Load Z o ho) rfl) dX3_fill_2 (fun H locs hP hS => ?_)
  obtain ⟨σ1, e2, h⟩ := lS_e h
  rw [← e2] at hP
  refine lv_aload_n hx hb dX3_fill_5 rfl (lv_at hl 0 rfl) ?_
  refine lv_iconst (v := 0) hx hb dX3_fill_6 (by decide) ?_
  refine wr_put (C := RX3) (T := TX3) (N := 5) (σ' := sI σ1 (208 + o) 4 0) (ty := .int) hx hb hts (in_X3_fill_X3) tyX3 tyX3_ok nmX3 hown hK hP hJ hS (k := (208 + o)) (by omega) ((tX_Load Z o ho) _ _ _) rfl 4 (by decide) (hts (.fieldLink RX3 25 "TuneSearch$Load" "units" "I") (by decide +kernel)) (fun _ h9 => h9) rfl (by decide +kernel) rfl rfl (Nat.le_of_ble_eq_true rfl) (ws_pI (tX_Load Z o ho) rfl) dX3_fill_7 (fun H locs hP hS => ?_)
  obtain ⟨σ3, e4, h⟩ := lS_e h
  rw [← e4] at hP
  refine lv_iconst (v := 0) hx hb dX3_fill_10 (by decide) ?_
  refine lv_istore_n (lv' := [(2, .int 0), (0, .ref (za Z (208 + o))), (1, .ref (za Z (156 + r0)))]) hx hb dX3_fill_11 rfl hl (by decide) rfl (fun ls hl => ?_)
  refine lv_iconst (v := 0) hx hb dX3_fill_12 (by decide) ?_
  refine lv_istore_n (lv' := [(3, .int 0), (2, .int 0), (0, .ref (za Z (208 + o))), (1, .ref (za Z (156 + r0)))]) hx hb dX3_fill_13 rfl hl (by decide) rfl (fun ls hl => ?_)
  exact kb_X3_fill_14 Z  o r0 ho hr0 C   FV σ3 0 0 h H locs hP hS ls (lv_sub hl [2, 3, 1, 0] rfl)
def m_X3_fill  (o : Nat) (r0 : Nat) (σ : SG)  : Option (Unit × SG) := m_X3_fill_0  o r0 σ 
set_option maxHeartbeats 4000000 in
set_option maxRecDepth 100000 in
theorem k_X3_fill (l : Launch) {E : EF} (Z : ZT)  (o : Nat) (r0 : Nat) (ho : o < 2) (hr0 : r0 < 9) (σ : SG)  {res : Unit × SG} (h : m_X3_fill  o r0 σ  = some res) : Met l yX3_fill wsX3_fill rm_X3_fill (va_Pc [.ref (za Z (208 + o)), .ref (za Z (156 + r0))] (wx E (zD Z) vwCl 211 (za Z) (tX Z) (tysX Z) σ)) (xQv E (zD Z) vwCl 211 (za Z) (tX Z) (tysX Z) res) 0 0 (ws_A 211 (za Z)) := by
  refine Met.ofW (cc := cX3_fill) (maxL := 4) (ret := none) (by decide) rfl ?_
  intro p e s m args below meth c s₁ B hml hv
  obtain ⟨rfl, hE, hJ, hP, hK⟩ := hv
  have hl := lv_entry ([.ref (za Z (208 + o)), .ref (za Z (156 + r0))]) (n := 4) (Nat.le_of_ble_eq_true rfl)
  rw [lg_entry_eq]
  generalize (lg_sl ([.ref (za Z (208 + o)), .ref (za Z (156 + r0))]) ++ List.replicate (4 - (lg_sl ([.ref (za Z (208 + o)), .ref (za Z (156 + r0))])).length) Slot.unset).toArray = ls at hl ⊢
  exact kb_X3_fill_0 Z  o r0 ho hr0 ⟨B.exec, B.bytes, B.returns, B.notSynchronized, hml, findClass_of_methodNamed B.named, atoms_spec (ws := wsX3_fill) B.pre, hE, hJ, hK⟩ σ  h s.heap [] hP va_S.rf ls hl
/-! TuneSearch$Level.begin()V -/
abbrev rm_X2_begin : Room := { frames := 1, cells := 0, slots := 0, locals := 25 }
theorem in_X2_begin_X2 : ∀ w ∈ wsX20, w ∈ wsX2_begin := by decide +kernel
def m_X2_begin_0  (o : Nat)  (σ : SG)  : Option (Unit × SG) :=
  bi (m_X5_become (3 * o) σ 0 0 0) (fun v1 σ2 => bi (m_X5_become (3 * o + 1) σ2 1 0 0) (fun v4 σ5 => bi (m_X5_become (3 * o + 2) σ5 1 0 0) (fun v7 σ8 => lS (sI σ8 (167 + o) 3 0) (fun σ10 => some ((), σ10)))))
set_option maxHeartbeats 4000000 in
set_option maxRecDepth 100000 in
theorem kb_X2_begin_0 {p : Program} {l : Launch} {e : Env} {s : State} {m : MethodId} {args : Array Value} {below : List Frame} {meth : Method} {c : Code} {E : EF} (Z : ZT)  (o : Nat) (ho : o < 9) (C : cy p s m args meth c cX2_begin none 1 RX2 wsX2_begin E (zD Z) vwCl 211 (za Z) (tysX Z)) {res : Unit × SG}   : ∀ (σ : SG)  , m_X2_begin_0  o  σ  = some res → ∀ (H : Heap) (locs : List Loc), ws_P (zD Z) vwCl 211 (za Z) (tX Z) σ H → va_S (ws_A 211 (za Z)) s.heap H locs → ∀ (ls : Array Slot), lv_has ls 1 [(0, .ref (za Z (167 + o)))] → W p l e rm_X2_begin s m args below meth c H locs 0 0 (MQ below (xQv E (zD Z) vwCl 211 (za Z) (tX Z) (tysX Z) res) args s 0 0 (ws_A 211 (za Z))) (F0 m 0 ls []) := by
  have C0 := C
  obtain ⟨hx, hb, hr, hlocks, hml, hown, hts, hE, hJ, hK⟩ := C0
  intro σ   h H locs hP hS ls hl
  unfold m_X2_begin_0 at h
  refine lv_aload_n hx hb dX2_begin_0 rfl (lv_at hl 0 rfl) ?_
  refine wr_get (C := RX2) (T := TX2) (N := 4) hx hb hts (in_X2_begin_X2) hown hK hP (k := (167 + o)) (by omega) ((tX_Level Z o ho) _ _ _) rfl 0 (by decide) (hts (.fieldLink RX2 10 "TuneSearch$Level" "choices" "LTuneSearch$Part;") (by decide +kernel)) (fun _ h9 => h9) rfl dX2_begin_1 ?_
  refine lv_iconst (v := 0) hx hb dX2_begin_4 (by decide) ?_
  refine lv_lconst (v := 0) hx hb dX2_begin_5 (by decide) ?_
  refine lv_lconst (v := 0) hx hb dX2_begin_6 (by decide) ?_
  obtain ⟨v1, σ2, hm3, h⟩ := bi_e h
  refine xr_callv (res := (v1, σ2)) (va_runV (As := [.int 0, .long 0, .long 0]) (rest := []) ⟨hx, hb, hml, hown, hts⟩ (k_X5_become l Z (3 * o) (by omega) σ 0 0 0 hm3) (cwV 3 hts gX2_begin_X5_become rfl rfl rfl (by decide +kernel) ⟨Nat.le_of_ble_eq_true rfl, Nat.le_of_ble_eq_true rfl⟩) ⟨wx_blind, wr_recv hK hP (k := (176 + (3 * o))) (by omega) ((tX_Part Z (3 * o) (by omega)) _ _ _) rfl, fun U hU hW => ⟨rfl, wx_at hE hJ hP hK hS hU hW⟩⟩ rfl rfl hl.1 rfl (lv_room (Nat.le_of_ble_eq_true rfl)) dX2_begin_7 ⟨Nat.le_of_ble_eq_true rfl, Nat.le_of_ble_eq_true rfl⟩) hS (fun H locs hP hS => ?_)
  have hP : ws_P (zD Z) vwCl 211 (za Z) (tX Z) σ2 H := hP
  refine lv_aload_n hx hb dX2_begin_10 rfl (lv_at hl 0 rfl) ?_
  refine wr_get (C := RX2) (T := TX2) (N := 4) hx hb hts (in_X2_begin_X2) hown hK hP (k := (167 + o)) (by omega) ((tX_Level Z o ho) _ _ _) rfl 1 (by decide) (hts (.fieldLink RX2 16 "TuneSearch$Level" "seq" "LTuneSearch$Part;") (by decide +kernel)) (fun _ h9 => h9) rfl dX2_begin_11 ?_
  refine lv_iconst (v := 1) hx hb dX2_begin_14 (by decide) ?_
  refine lv_lconst (v := 0) hx hb dX2_begin_15 (by decide) ?_
  refine lv_lconst (v := 0) hx hb dX2_begin_16 (by decide) ?_
  obtain ⟨v4, σ5, hm6, h⟩ := bi_e h
  refine xr_callv (res := (v4, σ5)) (va_runV (As := [.int 1, .long 0, .long 0]) (rest := []) ⟨hx, hb, hml, hown, hts⟩ (k_X5_become l Z (3 * o + 1) (by omega) σ2 1 0 0 hm6) (cwV 3 hts gX2_begin_X5_become rfl rfl rfl (by decide +kernel) ⟨Nat.le_of_ble_eq_true rfl, Nat.le_of_ble_eq_true rfl⟩) ⟨wx_blind, wr_recv hK hP (k := (176 + (3 * o + 1))) (by omega) ((tX_Part Z (3 * o + 1) (by omega)) _ _ _) rfl, fun U hU hW => ⟨rfl, wx_at hE hJ hP hK hS hU hW⟩⟩ rfl rfl hl.1 rfl (lv_room (Nat.le_of_ble_eq_true rfl)) dX2_begin_17 ⟨Nat.le_of_ble_eq_true rfl, Nat.le_of_ble_eq_true rfl⟩) hS (fun H locs hP hS => ?_)
  have hP : ws_P (zD Z) vwCl 211 (za Z) (tX Z) σ5 H := hP
  refine lv_aload_n hx hb dX2_begin_20 rfl (lv_at hl 0 rfl) ?_
  refine wr_get (C := RX2) (T := TX2) (N := 4) hx hb hts (in_X2_begin_X2) hown hK hP (k := (167 + o)) (by omega) ((tX_Level Z o ho) _ _ _) rfl 2 (by decide) (hts (.fieldLink RX2 19 "TuneSearch$Level" "item" "LTuneSearch$Part;") (by decide +kernel)) (fun _ h9 => h9) rfl dX2_begin_21 ?_
  refine lv_iconst (v := 1) hx hb dX2_begin_24 (by decide) ?_
  refine lv_lconst (v := 0) hx hb dX2_begin_25 (by decide) ?_
  refine lv_lconst (v := 0) hx hb dX2_begin_26 (by decide) ?_
  obtain ⟨v7, σ8, hm9, h⟩ := bi_e h
  refine xr_callv (res := (v7, σ8)) (va_runV (As := [.int 1, .long 0, .long 0]) (rest := []) ⟨hx, hb, hml, hown, hts⟩ (k_X5_become l Z (3 * o + 2) (by omega) σ5 1 0 0 hm9) (cwV 3 hts gX2_begin_X5_become rfl rfl rfl (by decide +kernel) ⟨Nat.le_of_ble_eq_true rfl, Nat.le_of_ble_eq_true rfl⟩) ⟨wx_blind, wr_recv hK hP (k := (176 + (3 * o + 2))) (by omega) ((tX_Part Z (3 * o + 2) (by omega)) _ _ _) rfl, fun U hU hW => ⟨rfl, wx_at hE hJ hP hK hS hU hW⟩⟩ rfl rfl hl.1 rfl (lv_room (Nat.le_of_ble_eq_true rfl)) dX2_begin_27 ⟨Nat.le_of_ble_eq_true rfl, Nat.le_of_ble_eq_true rfl⟩) hS (fun H locs hP hS => ?_)
  have hP : ws_P (zD Z) vwCl 211 (za Z) (tX Z) σ8 H := hP
  refine lv_aload_n hx hb dX2_begin_30 rfl (lv_at hl 0 rfl) ?_
  refine lv_iconst (v := 0) hx hb dX2_begin_31 (by decide) ?_
  refine wr_put (C := RX2) (T := TX2) (N := 4) (σ' := sI σ8 (167 + o) 3 0) (ty := .boolean) hx hb hts (in_X2_begin_X2) tyX2 tyX2_ok nmX2 hown hK hP hJ hS (k := (167 + o)) (by omega) ((tX_Level Z o ho) _ _ _) rfl 3 (by decide) (hts (.fieldLink RX2 26 "TuneSearch$Level" "canRepeat" "Z") (by decide +kernel)) (fun _ h9 => h9) rfl (by decide +kernel) rfl rfl (Nat.le_of_ble_eq_true rfl) (ws_pI (tX_Level Z o ho) rfl) dX2_begin_32 (fun H locs hP hS => ?_)
  obtain ⟨σ10, e11, h⟩ := lS_e h
  rw [← e11] at hP
  exact xr_vret hx hb hr hlocks hE hJ hK hP hS h dX2_begin_35
def m_X2_begin  (o : Nat) (σ : SG)  : Option (Unit × SG) := m_X2_begin_0  o σ 
set_option maxHeartbeats 4000000 in
set_option maxRecDepth 100000 in
theorem k_X2_begin (l : Launch) {E : EF} (Z : ZT)  (o : Nat) (ho : o < 9) (σ : SG)  {res : Unit × SG} (h : m_X2_begin  o σ  = some res) : Met l yX2_begin wsX2_begin rm_X2_begin (va_Pc [.ref (za Z (167 + o))] (wx E (zD Z) vwCl 211 (za Z) (tX Z) (tysX Z) σ)) (xQv E (zD Z) vwCl 211 (za Z) (tX Z) (tysX Z) res) 0 0 (ws_A 211 (za Z)) := by
  refine Met.ofW (cc := cX2_begin) (maxL := 1) (ret := none) (by decide) rfl ?_
  intro p e s m args below meth c s₁ B hml hv
  obtain ⟨rfl, hE, hJ, hP, hK⟩ := hv
  have hl := lv_entry ([.ref (za Z (167 + o))]) (n := 1) (Nat.le_of_ble_eq_true rfl)
  rw [lg_entry_eq]
  generalize (lg_sl ([.ref (za Z (167 + o))]) ++ List.replicate (1 - (lg_sl ([.ref (za Z (167 + o))])).length) Slot.unset).toArray = ls at hl ⊢
  exact kb_X2_begin_0 Z  o ho ⟨B.exec, B.bytes, B.returns, B.notSynchronized, hml, findClass_of_methodNamed B.named, atoms_spec (ws := wsX2_begin) B.pre, hE, hJ, hK⟩ σ  h s.heap [] hP va_S.rf ls hl
/-! TuneSearch$Level.closeItem(LTuneSearch$Word;)V -/
abbrev rm_X2_closeItem : Room := { frames := 1, cells := 0, slots := 0, locals := 25 }
theorem in_X2_closeItem_X2 : ∀ w ∈ wsX20, w ∈ wsX2_closeItem := by decide +kernel
theorem in_X2_closeItem_X5 : ∀ w ∈ wsX50, w ∈ wsX2_closeItem := by decide +kernel
def m_X2_closeItem_0  (o : Nat) (r0 : Nat)  (σ : SG)  : Option (Unit × SG) :=
  bi (m_X9_link r0 σ (σ.2.1 (176 + (3 * o + 1)) 2) (σ.2.1 (176 + (3 * o + 2)) 1)) (fun v1 σ2 => bi (m_X5_addBehind (3 * o + 1) (3 * o + 2) σ2 ) (fun v4 σ5 => bi (m_X5_become (3 * o + 2) σ5 1 0 0) (fun v7 σ8 => lS (sI σ8 (167 + o) 3 0) (fun σ10 => some ((), σ10)))))
set_option maxHeartbeats 4000000 in
set_option maxRecDepth 100000 in
theorem kb_X2_closeItem_0 {p : Program} {l : Launch} {e : Env} {s : State} {m : MethodId} {args : Array Value} {below : List Frame} {meth : Method} {c : Code} {E : EF} (Z : ZT)  (o : Nat) (r0 : Nat) (ho : o < 9) (hr0 : r0 < 2) (C : cy p s m args meth c cX2_closeItem none 2 RX2 wsX2_closeItem E (zD Z) vwCl 211 (za Z) (tysX Z)) {res : Unit × SG}   : ∀ (σ : SG)  , m_X2_closeItem_0  o r0  σ  = some res → ∀ (H : Heap) (locs : List Loc), ws_P (zD Z) vwCl 211 (za Z) (tX Z) σ H → va_S (ws_A 211 (za Z)) s.heap H locs → ∀ (ls : Array Slot), lv_has ls 2 [(0, .ref (za Z (167 + o))), (1, .ref (za Z (203 + r0)))] → W p l e rm_X2_closeItem s m args below meth c H locs 0 0 (MQ below (xQv E (zD Z) vwCl 211 (za Z) (tX Z) (tysX Z) res) args s 0 0 (ws_A 211 (za Z))) (F0 m 0 ls []) := by
  have C0 := C
  obtain ⟨hx, hb, hr, hlocks, hml, hown, hts, hE, hJ, hK⟩ := C0
  intro σ   h H locs hP hS ls hl
  unfold m_X2_closeItem_0 at h
  refine lv_aload_n hx hb dX2_closeItem_0 rfl (lv_at hl 1 rfl) ?_
  refine lv_aload_n hx hb dX2_closeItem_1 rfl (lv_at hl 0 rfl) ?_
  refine wr_get (C := RX2) (T := TX2) (N := 4) hx hb hts (in_X2_closeItem_X2) hown hK hP (k := (167 + o)) (by omega) ((tX_Level Z o ho) _ _ _) rfl 1 (by decide) (hts (.fieldLink RX2 16 "TuneSearch$Level" "seq" "LTuneSearch$Part;") (by decide +kernel)) (fun _ h9 => h9) rfl dX2_closeItem_2 ?_
  refine wr_get (C := RX5) (T := TX5) (N := 3) hx hb hts (in_X2_closeItem_X5) hown hK hP (k := (176 + (3 * o + 1))) (by omega) ((tX_Part Z (3 * o + 1) (by omega)) _ _ _) rfl 2 (by decide) (hts (.fieldLink RX2 30 "TuneSearch$Part" "last" "J") (by decide +kernel)) (fun _ h9 => h9) rfl dX2_closeItem_5 ?_
  refine lv_aload_n hx hb dX2_closeItem_8 rfl (lv_at hl 0 rfl) ?_
  refine wr_get (C := RX2) (T := TX2) (N := 4) hx hb hts (in_X2_closeItem_X2) hown hK hP (k := (167 + o)) (by omega) ((tX_Level Z o ho) _ _ _) rfl 2 (by decide) (hts (.fieldLink RX2 19 "TuneSearch$Level" "item" "LTuneSearch$Part;") (by decide +kernel)) (fun _ h9 => h9) rfl dX2_closeItem_9 ?_
  refine wr_get (C := RX5) (T := TX5) (N := 3) hx hb hts (in_X2_closeItem_X5) hown hK hP (k := (176 + (3 * o + 2))) (by omega) ((tX_Part Z (3 * o + 2) (by omega)) _ _ _) rfl 1 (by decide) (hts (.fieldLink RX2 34 "TuneSearch$Part" "first" "J") (by decide +kernel)) (fun _ h9 => h9) rfl dX2_closeItem_12 ?_
  obtain ⟨v1, σ2, hm3, h⟩ := bi_e h
  refine xr_callv (res := (v1, σ2)) (va_runV (As := [.long (σ.2.1 (176 + (3 * o + 1)) 2), .long (σ.2.1 (176 + (3 * o + 2)) 1)]) (rest := []) ⟨hx, hb, hml, hown, hts⟩ (k_X9_link l Z r0 hr0 σ (σ.2.1 (176 + (3 * o + 1)) 2) (σ.2.1 (176 + (3 * o + 2)) 1) hm3) (cwV 2 hts gX2_closeItem_X9_link rfl rfl rfl (by decide +kernel) ⟨Nat.le_of_ble_eq_true rfl, Nat.le_of_ble_eq_true rfl⟩) ⟨wx_blind, wr_recv hK hP (k := (203 + r0)) (by omega) ((tX_Word Z r0 hr0) _ _ _) rfl, fun U hU hW => ⟨rfl, wx_at hE hJ hP hK hS hU hW⟩⟩ rfl rfl hl.1 rfl (lv_room (Nat.le_of_ble_eq_true rfl)) dX2_closeItem_15 ⟨Nat.le_of_ble_eq_true rfl, Nat.le_of_ble_eq_true rfl⟩) hS (fun H locs hP hS => ?_)
  have hP : ws_P (zD Z) vwCl 211 (za Z) (tX Z) σ2 H := hP
  refine lv_aload_n hx hb dX2_closeItem_18 rfl (lv_at hl 0 rfl) ?_
  refine wr_get (C := RX2) (T := TX2) (N := 4) hx hb hts (in_X2_closeItem_X2) hown hK hP (k := (167 + o)) (by omega) ((tX_Level Z o ho) _ _ _) rfl 1 (by decide) (hts (.fieldLink RX2 16 "TuneSearch$Level" "seq" "LTuneSearch$Part;") (by decide +kernel)) (fun _ h9 => h9) rfl dX2_closeItem_19 ?_
  refine lv_aload_n hx hb dX2_closeItem_22 rfl (lv_at hl 0 rfl) ?_
  refine wr_get (C := RX2) (T := TX2) (N := 4) hx hb hts (in_X2_closeItem_X2) hown hK hP (k := (167 + o)) (by omega) ((tX_Level Z o ho) _ _ _) rfl 2 (by decide) (hts (.fieldLink RX2 19 "TuneSearch$Level" "item" "LTuneSearch$Part;") (by decide +kernel)) (fun _ h9 => h9) rfl dX2_closeItem_23 ?_
  obtain ⟨v4, σ5, hm6, h⟩ := bi_e h
  refine xr_callv (res := (v4, σ5)) (va_runV (As := [.ref (za Z (176 + (3 * o + 2)))]) (rest := []) ⟨hx, hb, hml, hown, hts⟩ (k_X5_addBehind l Z (3 * o + 1) (3 * o + 2) (by omega) (by omega) σ2  hm6) (cwV 1 hts gX2_closeItem_X5_addBehind rfl rfl rfl (by decide +kernel) ⟨Nat.le_of_ble_eq_true rfl, Nat.le_of_ble_eq_true rfl⟩) ⟨wx_blind, wr_recv hK hP (k := (176 + (3 * o + 1))) (by omega) ((tX_Part Z (3 * o + 1) (by omega)) _ _ _) rfl, fun U hU hW => ⟨rfl, wx_at hE hJ hP hK hS hU hW⟩⟩ rfl rfl hl.1 rfl (lv_room (Nat.le_of_ble_eq_true rfl)) dX2_closeItem_26 ⟨Nat.le_of_ble_eq_true rfl, Nat.le_of_ble_eq_true rfl⟩) hS (fun H locs hP hS => ?_)
  have hP : ws_P (zD Z) vwCl 211 (za Z) (tX Z) σ5 H := hP
  refine lv_aload_n hx hb dX2_closeItem_29 rfl (lv_at hl 0 rfl) ?_
  refine wr_get (C := RX2) (T := TX2) (N := 4) hx hb hts (in_X2_closeItem_X2) hown hK hP (k := (167 + o)) (by omega) ((tX_Level Z o ho) _ _ _) rfl 2 (by decide) (hts (.fieldLink RX2 19 "TuneSearch$Level" "item" "LTuneSearch$Part;") (by decide +kernel)) (fun _ h9 => h9) rfl dX2_closeItem_30 ?_
  refine lv_iconst (v := 1) hx hb dX2_closeItem_33 (by decide) ?_
  refine lv_lconst (v := 0) hx hb dX2_closeItem_34 (by decide) ?_
  refine lv_lconst (v := 0) hx hb dX2_closeItem_35 (by decide) ?_
  obtain ⟨v7, σ8, hm9, h⟩ := bi_e h
  refine xr_callv (res := (v7, σ8)) (va_runV (As := [.int 1, .long 0, .long 0]) (rest := []) ⟨hx, hb, hml, hown, hts⟩ (k_X5_become l Z (3 * o + 2) (by omega) σ5 1 0 0 hm9) (cwV 3 hts gX2_closeItem_X5_become rfl rfl rfl (by decide +kernel) ⟨Nat.le_of_ble_eq_true rfl, Nat.le_of_ble_eq_true rfl⟩) ⟨wx_blind, wr_recv hK hP (k := (176 + (3 * o + 2))) (by omega) ((tX_Part Z (3 * o + 2) (by omega)) _ _ _) rfl, fun U hU hW => ⟨rfl, wx_at hE hJ hP hK hS hU hW⟩⟩ rfl rfl hl.1 rfl (lv_room (Nat.le_of_ble_eq_true rfl)) dX2_closeItem_36 ⟨Nat.le_of_ble_eq_true rfl, Nat.le_of_ble_eq_true rfl⟩) hS (fun H locs hP hS => ?_)
  have hP : ws_P (zD Z) vwCl 211 (za Z) (tX Z) σ8 H := hP
  refine lv_aload_n hx hb dX2_closeItem_39 rfl (lv_at hl 0 rfl) ?_
  refine lv_iconst (v := 0) hx hb dX2_closeItem_40 (by decide) ?_
  refine wr_put (C := RX2) (T := TX2) (N := 4) (σ' := sI σ8 (167 + o) 3 0) (ty := .boolean) hx hb hts (in_X2_closeItem_X2) tyX2 tyX2_ok nmX2 hown hK hP hJ hS (k := (167 + o)) (by omega) ((tX_Level Z o ho) _ _ _) rfl 3 (by decide) (hts (.fieldLink RX2 26 "TuneSearch$Level" "canRepeat" "Z") (by decide +kernel)) (fun _ h9 => h9) rfl (by decide +kernel) rfl rfl (Nat.le_of_ble_eq_true rfl) (ws_pI (tX_Level Z o ho) rfl) dX2_closeItem_41 (fun H locs hP hS => ?_)
  obtain ⟨σ10, e11, h⟩ := lS_e h
  rw [← e11] at hP
  exact xr_vret hx hb hr hlocks hE hJ hK hP hS h dX2_closeItem_44
def m_X2_closeItem  (o : Nat) (r0 : Nat) (σ : SG)  : Option (Unit × SG) := m_X2_closeItem_0  o r0 σ 
set_option maxHeartbeats 4000000 in
set_option maxRecDepth 100000 in
theorem k_X2_closeItem (l : Launch) {E : EF} (Z : ZT)  (o : Nat) (r0 : Nat) (ho : o < 9) (hr0 : r0 < 2) (σ : SG)  {res : Unit × SG} (h : m_X2_closeItem  o r0 σ  = some res) : Met l yX2_closeItem wsX2_closeItem rm_X2_closeItem (va_Pc [.ref (za Z (167 + o)), .ref (za Z (203 + r0))] (wx E (zD Z) vwCl 211 (za Z) (tX Z) (tysX Z) σ)) (xQv E (zD Z) vwCl 211 (za Z) (tX Z) (tysX Z) res) 0 0 (ws_A 211 (za Z)) := by
  refine Met.ofW (cc := cX2_closeItem) (maxL := 2) (ret := none) (by decide) rfl ?_
  intro p e s m args below meth c s₁ B hml hv
  obtain ⟨rfl, hE, hJ, hP, hK⟩ := hv
  have hl := lv_entry ([.ref (za Z (167 + o)), .ref (za Z (203 + r0))]) (n := 2) (Nat.le_of_ble_eq_true rfl)
  rw [lg_entry_eq]
  generalize (lg_sl ([.ref (za Z (167 + o)), .ref (za Z (203 + r0))]) ++ List.replicate (2 - (lg_sl ([.ref (za Z (167 + o)), .ref (za Z (203 + r0))])).length) Slot.unset).toArray = ls at hl ⊢
  exact kb_X2_closeItem_0 Z  o r0 ho hr0 ⟨B.exec, B.bytes, B.returns, B.notSynchronized, hml, findClass_of_methodNamed B.named, atoms_spec (ws := wsX2_closeItem) B.pre, hE, hJ, hK⟩ σ  h s.heap [] hP va_S.rf ls hl
/-! TuneSearch$Level.closeSeq(LTuneSearch$Word;)V -/
abbrev rm_X2_closeSeq : Room := { frames := 2, cells := 0, slots := 0, locals := 46 }
theorem in_X2_closeSeq_X2 : ∀ w ∈ wsX20, w ∈ wsX2_closeSeq := by decide +kernel
def m_X2_closeSeq_0  (o : Nat) (r0 : Nat)  (σ : SG)  : Option (Unit × SG) :=
  bi (m_X2_closeItem o r0 σ ) (fun v1 σ2 => bi (m_X5_addChoice (3 * o) (3 * o + 1) σ2 ) (fun v4 σ5 => bi (m_X5_become (3 * o + 1) σ5 1 0 0) (fun v7 σ8 => some ((), σ8))))
set_option maxHeartbeats 4000000 in
set_option maxRecDepth 100000 in
theorem kb_X2_closeSeq_0 {p : Program} {l : Launch} {e : Env} {s : State} {m : MethodId} {args : Array Value} {below : List Frame} {meth : Method} {c : Code} {E : EF} (Z : ZT)  (o : Nat) (r0 : Nat) (ho : o < 9) (hr0 : r0 < 2) (C : cy p s m args meth c cX2_closeSeq none 2 RX2 wsX2_closeSeq E (zD Z) vwCl 211 (za Z) (tysX Z)) {res : Unit × SG}   : ∀ (σ : SG)  , m_X2_closeSeq_0  o r0  σ  = some res → ∀ (H : Heap) (locs : List Loc), ws_P (zD Z) vwCl 211 (za Z) (tX Z) σ H → va_S (ws_A 211 (za Z)) s.heap H locs → ∀ (ls : Array Slot), lv_has ls 2 [(0, .ref (za Z (167 + o))), (1, .ref (za Z (203 + r0)))] → W p l e rm_X2_closeSeq s m args below meth c H locs 0 0 (MQ below (xQv E (zD Z) vwCl 211 (za Z) (tX Z) (tysX Z) res) args s 0 0 (ws_A 211 (za Z))) (F0 m 0 ls []) := by
  have C0 := C
  obtain ⟨hx, hb, hr, hlocks, hml, hown, hts, hE, hJ, hK⟩ := C0
  intro σ   h H locs hP hS ls hl
  unfold m_X2_closeSeq_0 at h
  refine lv_aload_n hx hb dX2_closeSeq_0 rfl (lv_at hl 0 rfl) ?_
  refine lv_aload_n hx hb dX2_closeSeq_1 rfl (lv_at hl 1 rfl) ?_
  obtain ⟨v1, σ2, hm3, h⟩ := bi_e h
  refine xr_callv (res := (v1, σ2)) (va_runV (As := [.ref (za Z (203 + r0))]) (rest := []) ⟨hx, hb, hml, hown, hts⟩ (k_X2_closeItem l Z o r0 ho hr0 σ  hm3) (cwV 1 hts gX2_closeSeq_X2_closeItem rfl rfl rfl (by decide +kernel) ⟨Nat.le_of_ble_eq_true rfl, Nat.le_of_ble_eq_true rfl⟩) ⟨wx_blind, wr_recv hK hP (k := (167 + o)) (by omega) ((tX_Level Z o ho) _ _ _) rfl, fun U hU hW => ⟨rfl, wx_at hE hJ hP hK hS hU hW⟩⟩ rfl rfl hl.1 rfl (lv_room (Nat.le_of_ble_eq_true rfl)) dX2_closeSeq_2 ⟨Nat.le_of_ble_eq_true rfl, Nat.le_of_ble_eq_true rfl⟩) hS (fun H locs hP hS => ?_)
  have hP : ws_P (zD Z) vwCl 211 (za Z) (tX Z) σ2 H := hP
  refine lv_aload_n hx hb dX2_closeSeq_5 rfl (lv_at hl 0 rfl) ?_
  refine wr_get (C := RX2) (T := TX2) (N := 4) hx hb hts (in_X2_closeSeq_X2) hown hK hP (k := (167 + o)) (by omega) ((tX_Level Z o ho) _ _ _) rfl 0 (by decide) (hts (.fieldLink RX2 10 "TuneSearch$Level" "choices" "LTuneSearch$Part;") (by decide +kernel)) (fun _ h9 => h9) rfl dX2_closeSeq_6 ?_
  refine lv_aload_n hx hb dX2_closeSeq_9 rfl (lv_at hl 0 rfl) ?_
  refine wr_get (C := RX2) (T := TX2) (N := 4) hx hb hts (in_X2_closeSeq_X2) hown hK hP (k := (167 + o)) (by omega) ((tX_Level Z o ho) _ _ _) rfl 1 (by decide) (hts (.fieldLink RX2 16 "TuneSearch$Level" "seq" "LTuneSearch$Part;") (by decide +kernel)) (fun _ h9 => h9) rfl dX2_closeSeq_10 ?_
  obtain ⟨v4, σ5, hm6, h⟩ := bi_e h
  refine xr_callv (res := (v4, σ5)) (va_runV (As := [.ref (za Z (176 + (3 * o + 1)))]) (rest := []) ⟨hx, hb, hml, hown, hts⟩ (k_X5_addChoice l Z (3 * o) (3 * o + 1) (by omega) (by omega) σ2  hm6) (cwV 1 hts gX2_closeSeq_X5_addChoice rfl rfl rfl (by decide +kernel) ⟨Nat.le_of_ble_eq_true rfl, Nat.le_of_ble_eq_true rfl⟩) ⟨wx_blind, wr_recv hK hP (k := (176 + (3 * o))) (by omega) ((tX_Part Z (3 * o) (by omega)) _ _ _) rfl, fun U hU hW => ⟨rfl, wx_at hE hJ hP hK hS hU hW⟩⟩ rfl rfl hl.1 rfl (lv_room (Nat.le_of_ble_eq_true rfl)) dX2_closeSeq_13 ⟨Nat.le_of_ble_eq_true rfl, Nat.le_of_ble_eq_true rfl⟩) hS (fun H locs hP hS => ?_)
  have hP : ws_P (zD Z) vwCl 211 (za Z) (tX Z) σ5 H := hP
  refine lv_aload_n hx hb dX2_closeSeq_16 rfl (lv_at hl 0 rfl) ?_
  refine wr_get (C := RX2) (T := TX2) (N := 4) hx hb hts (in_X2_closeSeq_X2) hown hK hP (k := (167 + o)) (by omega) ((tX_Level Z o ho) _ _ _) rfl 1 (by decide) (hts (.fieldLink RX2 16 "TuneSearch$Level" "seq" "LTuneSearch$Part;") (by decide +kernel)) (fun _ h9 => h9) rfl dX2_closeSeq_17 ?_
  refine lv_iconst (v := 1) hx hb dX2_closeSeq_20 (by decide) ?_
  refine lv_lconst (v := 0) hx hb dX2_closeSeq_21 (by decide) ?_
  refine lv_lconst (v := 0) hx hb dX2_closeSeq_22 (by decide) ?_
  obtain ⟨v7, σ8, hm9, h⟩ := bi_e h
  refine xr_callv (res := (v7, σ8)) (va_runV (As := [.int 1, .long 0, .long 0]) (rest := []) ⟨hx, hb, hml, hown, hts⟩ (k_X5_become l Z (3 * o + 1) (by omega) σ5 1 0 0 hm9) (cwV 3 hts gX2_closeSeq_X5_become rfl rfl rfl (by decide +kernel) ⟨Nat.le_of_ble_eq_true rfl, Nat.le_of_ble_eq_true rfl⟩) ⟨wx_blind, wr_recv hK hP (k := (176 + (3 * o + 1))) (by omega) ((tX_Part Z (3 * o + 1) (by omega)) _ _ _) rfl, fun U hU hW => ⟨rfl, wx_at hE hJ hP hK hS hU hW⟩⟩ rfl rfl hl.1 rfl (lv_room (Nat.le_of_ble_eq_true rfl)) dX2_closeSeq_23 ⟨Nat.le_of_ble_eq_true rfl, Nat.le_of_ble_eq_true rfl⟩) hS (fun H locs hP hS => ?_)
  have hP : ws_P (zD Z) vwCl 211 (za Z) (tX Z) σ8 H := hP
  exact xr_vret hx hb hr hlocks hE hJ hK hP hS h dX2_closeSeq_26
def m_X2_closeSeq  (o : Nat) (r0 : Nat) (σ : SG)  : Option (Unit × SG) := m_X2_closeSeq_0  o r0 σ 
set_option maxHeartbeats 4000000 in
set_option maxRecDepth 100000 in
theorem k_X2_closeSeq (l : Launch) {E : EF} (Z : ZT)  (o : Nat) (r0 : Nat) (ho : o < 9) (hr0 : r0 < 2) (σ : SG)  {res : Unit × SG} (h : m_X2_closeSeq  o r0 σ  = some res) : Met l yX2_closeSeq wsX2_closeSeq rm_X2_closeSeq (va_Pc [.ref (za Z (167 + o)), .ref (za Z (203 + r0))] (wx E (zD Z) vwCl 211 (za Z) (tX Z) (tysX Z) σ)) (xQv E (zD Z) vwCl 211 (za Z) (tX Z) (tysX Z) res) 0 0 (ws_A 211 (za Z)) := by
  refine Met.ofW (cc := cX2_closeSeq) (maxL := 2) (ret := none) (by decide) rfl ?_
  intro p e s m args below meth c s₁ B hml hv
  obtain ⟨rfl, hE, hJ, hP, hK⟩ := hv
  have hl := lv_entry ([.ref (za Z (167 + o)), .ref (za Z (203 + r0))]) (n := 2) (Nat.le_of_ble_eq_true rfl)
  rw [lg_entry_eq]
  generalize (lg_sl ([.ref (za Z (167 + o)), .ref (za Z (203 + r0))]) ++ List.replicate (2 - (lg_sl ([.ref (za Z (167 + o)), .ref (za Z (203 + r0))])).length) Slot.unset).toArray = ls at hl ⊢
  exact kb_X2_closeSeq_0 Z  o r0 ho hr0 ⟨B.exec, B.bytes, B.returns, B.notSynchronized, hml, findClass_of_methodNamed B.named, atoms_spec (ws := wsX2_closeSeq) B.pre, hE, hJ, hK⟩ σ  h s.heap [] hP va_S.rf ls hl
/-! TuneSearch$Signs.interval(LTuneSearch$NoteRow;I)I -/
abbrev rm_X6_interval : Room := { frames := 1, cells := 0, slots := 0, locals := 21 }
theorem in_X6_interval_X4 : ∀ w ∈ wsX40, w ∈ wsX6_interval := by decide +kernel
def m_X6_interval_0  (r0 : Nat)  (σ : SG) (p1 : Int32) : Option (Int32 × SG) :=
  bi (m_X4_isRest r0 σ p1) (fun v1 σ2 => if ¬ v1 = 0 then (some ((-1000), σ2)) else (bi (m_X4_isRest r0 σ2 (p1 - 1)) (fun v5 σ6 => if v5 = 0 then (gB (inB p1 (lenX (2 * r0))) (gB (inB (p1 - 1) (lenX (2 * r0))) (some ((σ6.1 (2 * r0) p1.toNatClampNeg) - (σ6.1 (2 * r0) (p1 - 1).toNatClampNeg), σ6)))) else (some ((-1000), σ6)))))
set_option maxHeartbeats 4000000 in
set_option maxRecDepth 100000 in
theorem kb_X6_interval_0 {p : Program} {l : Launch} {e : Env} {s : State} {m : MethodId} {args : Array Value} {below : List Frame} {meth : Method} {c : Code} {E : EF} (Z : ZT)  (r0 : Nat) (hr0 : r0 < 9) (C : cy p s m args meth c cX6_interval (some .int) 2 RX6 wsX6_interval E (zD Z) vwCl 211 (za Z) (tysX Z)) {res : Int32 × SG}   : ∀ (σ : SG) (p1 : Int32) , m_X6_interval_0  r0  σ p1 = some res → ∀ (H : Heap) (locs : List Loc), ws_P (zD Z) vwCl 211 (za Z) (tX Z) σ H → va_S (ws_A 211 (za Z)) s.heap H locs → ∀ (ls : Array Slot), lv_has ls 2 [(0, .ref (za Z (156 + r0))), (1, .int p1)] → W p l e rm_X6_interval s m args below meth c H locs 0 0 (MQ below (xQi E (zD Z) vwCl 211 (za Z) (tX Z) (tysX Z) res) args s 0 0 (ws_A 211 (za Z))) (F0 m 0 ls []) := by
  have C0 := C
  obtain ⟨hx, hb, hr, hlocks, hml, hown, hts, hE, hJ, hK⟩ := C0
  intro σ p1  h H locs hP hS ls hl
  unfold m_X6_interval_0 at h
  refine lv_aload_n hx hb dX6_interval_0 rfl (lv_at hl 0 rfl) ?_
  refine lv_iload_n hx hb dX6_interval_1 rfl (lv_at hl 1 rfl) ?_
  obtain ⟨v1, σ2, hm3, h⟩ := bi_e h
  refine xr_calli (res := (v1, σ2)) (va_runV (As := [.int p1]) (rest := []) ⟨hx, hb, hml, hown, hts⟩ (k_X4_isRest l Z r0 hr0 σ p1 hm3) (cwV 1 hts gX6_interval_X4_isRest rfl rfl rfl (by decide +kernel) ⟨Nat.le_of_ble_eq_true rfl, Nat.le_of_ble_eq_true rfl⟩) ⟨wx_blind, wr_recv hK hP (k := (156 + r0)) (by omega) ((tX_NoteRow Z r0 hr0) _ _ _) rfl, fun U hU hW => ⟨rfl, wx_at hE hJ hP hK hS hU hW⟩⟩ rfl rfl hl.1 rfl (lv_room (Nat.le_of_ble_eq_true rfl)) dX6_interval_2 ⟨Nat.le_of_ble_eq_true rfl, Nat.le_of_ble_eq_true rfl⟩) hS (fun H locs hP hS => ?_)
  have hP : ws_P (zD Z) vwCl 211 (za Z) (tX Z) σ2 H := hP
  refine lv_if_ne (tgt := 18) hx hb dX6_interval_5 (by decide) (fun q4 => ?_) (fun q4 => ?_)
  · have h := if_p h q4
    refine lv_sipush (v := (-1000)) hx hb dX6_interval_18 (by decide) ?_
    exact xr_iret hx hb hr hlocks hE hJ hK hP hS h dX6_interval_21
  · have h := if_n h (fun z => z q4)
    refine lv_aload_n hx hb dX6_interval_8 rfl (lv_at hl 0 rfl) ?_
    refine lv_iload_n hx hb dX6_interval_9 rfl (lv_at hl 1 rfl) ?_
    refine lv_iconst (v := 1) hx hb dX6_interval_10 (by decide) ?_
    refine lv_isub hx hb dX6_interval_11 ?_
    obtain ⟨v5, σ6, hm7, h⟩ := bi_e h
    refine xr_calli (res := (v5, σ6)) (va_runV (As := [.int (p1 - 1)]) (rest := []) ⟨hx, hb, hml, hown, hts⟩ (k_X4_isRest l Z r0 hr0 σ2 (p1 - 1) hm7) (cwV 1 hts gX6_interval_X4_isRest rfl rfl rfl (by decide +kernel) ⟨Nat.le_of_ble_eq_true rfl, Nat.le_of_ble_eq_true rfl⟩) ⟨wx_blind, wr_recv hK hP (k := (156 + r0)) (by omega) ((tX_NoteRow Z r0 hr0) _ _ _) rfl, fun U hU hW => ⟨rfl, wx_at hE hJ hP hK hS hU hW⟩⟩ rfl rfl hl.1 rfl (lv_room (Nat.le_of_ble_eq_true rfl)) dX6_interval_12 ⟨Nat.le_of_ble_eq_true rfl, Nat.le_of_ble_eq_true rfl⟩) hS (fun H locs hP hS => ?_)
    have hP : ws_P (zD Z) vwCl 211 (za Z) (tX Z) σ6 H := hP
    refine lv_if_eq (tgt := 22) hx hb dX6_interval_15 (by decide) (fun q8 => ?_) (fun q8 => ?_)
    · have h := if_p h q8
      refine lv_aload_n hx hb dX6_interval_22 rfl (lv_at hl 0 rfl) ?_
      refine wr_get (C := RX4) (T := TX4) (N := 3) hx hb hts (in_X6_interval_X4) hown hK hP (k := (156 + r0)) (by omega) ((tX_NoteRow Z r0 hr0) _ _ _) rfl 0 (by decide) (hts (.fieldLink RX6 30 "TuneSearch$NoteRow" "pitches" "[I") (by decide +kernel)) (fun _ h9 => h9) rfl dX6_interval_23 ?_
      refine lv_iload_n hx hb dX6_interval_26 rfl (lv_at hl 1 rfl) ?_
      obtain ⟨b9, h⟩ := gB_e h
      refine wr_iald hx hb hK hP (k := (2 * r0)) (by omega) 0 ((tX_I Z (2 * r0) (by omega)) _ _ _) rfl b9 dX6_interval_27 ?_
      refine lv_aload_n hx hb dX6_interval_28 rfl (lv_at hl 0 rfl) ?_
      refine wr_get (C := RX4) (T := TX4) (N := 3) hx hb hts (in_X6_interval_X4) hown hK hP (k := (156 + r0)) (by omega) ((tX_NoteRow Z r0 hr0) _ _ _) rfl 0 (by decide) (hts (.fieldLink RX6 30 "TuneSearch$NoteRow" "pitches" "[I") (by decide +kernel)) (fun _ h9 => h9) rfl dX6_interval_29 ?_
      refine lv_iload_n hx hb dX6_interval_32 rfl (lv_at hl 1 rfl) ?_
      refine lv_iconst (v := 1) hx hb dX6_interval_33 (by decide) ?_
      refine lv_isub hx hb dX6_interval_34 ?_
      obtain ⟨b10, h⟩ := gB_e h
      refine wr_iald hx hb hK hP (k := (2 * r0)) (by omega) 0 ((tX_I Z (2 * r0) (by omega)) _ _ _) rfl b10 dX6_interval_35 ?_
      refine lv_isub hx hb dX6_interval_36 ?_
      exact xr_iret hx hb hr hlocks hE hJ hK hP hS h dX6_interval_37
    · have h := if_n h q8
      refine lv_sipush (v := (-1000)) hx hb dX6_interval_18 (by decide) ?_
      exact xr_iret hx hb hr hlocks hE hJ hK hP hS h dX6_interval_21
def m_X6_interval  (r0 : Nat) (σ : SG) (p1 : Int32) : Option (Int32 × SG) := m_X6_interval_0  r0 σ p1
set_option maxHeartbeats 4000000 in
set_option maxRecDepth 100000 in
theorem k_X6_interval (l : Launch) {E : EF} (Z : ZT)  (r0 : Nat) (hr0 : r0 < 9) (σ : SG) (p1 : Int32) {res : Int32 × SG} (h : m_X6_interval  r0 σ p1 = some res) : Met l yX6_interval wsX6_interval rm_X6_interval (va_Pc [.ref (za Z (156 + r0)), .int p1] (wx E (zD Z) vwCl 211 (za Z) (tX Z) (tysX Z) σ)) (xQi E (zD Z) vwCl 211 (za Z) (tX Z) (tysX Z) res) 0 0 (ws_A 211 (za Z)) := by
  refine Met.ofW (cc := cX6_interval) (maxL := 2) (ret := (some .int)) (by decide) rfl ?_
  intro p e s m args below meth c s₁ B hml hv
  obtain ⟨rfl, hE, hJ, hP, hK⟩ := hv
  have hl := lv_entry ([.ref (za Z (156 + r0)), .int p1]) (n := 2) (Nat.le_of_ble_eq_true rfl)
  rw [lg_entry_eq]
  generalize (lg_sl ([.ref (za Z (156 + r0)), .int p1]) ++ List.replicate (2 - (lg_sl ([.ref (za Z (156 + r0)), .int p1])).length) Slot.unset).toArray = ls at hl ⊢
  exact kb_X6_interval_0 Z  r0 hr0 ⟨B.exec, B.bytes, B.returns, B.notSynchronized, hml, findClass_of_methodNamed B.named, atoms_spec (ws := wsX6_interval) B.pre, hE, hJ, hK⟩ σ p1 h s.heap [] hP va_S.rf ls hl
/-! TuneSearch$Signs.turn(I)I -/
abbrev rm_X6_turn : Room := { frames := 0, cells := 0, slots := 0, locals := 0 }
def m_X6_turn_0    (σ : SG) (p0 : Int32) : Option (Int32 × SG) :=
  if ¬ p0 = 0 then (if p0 ≤ 0 then (some ((-1), σ)) else (some (1, σ))) else (some (0, σ))
set_option maxHeartbeats 4000000 in
set_option maxRecDepth 100000 in
theorem kb_X6_turn_0 {p : Program} {l : Launch} {e : Env} {s : State} {m : MethodId} {args : Array Value} {below : List Frame} {meth : Method} {c : Code} {E : EF} (Z : ZT)    (C : cy p s m args meth c cX6_turn (some .int) 1 RX6 wsX6_turn E (zD Z) vwCl 211 (za Z) (tysX Z)) {res : Int32 × SG}   : ∀ (σ : SG) (p0 : Int32) , m_X6_turn_0    σ p0 = some res → ∀ (H : Heap) (locs : List Loc), ws_P (zD Z) vwCl 211 (za Z) (tX Z) σ H → va_S (ws_A 211 (za Z)) s.heap H locs → ∀ (ls : Array Slot), lv_has ls 1 [(0, .int p0)] → W p l e rm_X6_turn s m args below meth c H locs 0 0 (MQ below (xQi E (zD Z) vwCl 211 (za Z) (tX Z) (tysX Z) res) args s 0 0 (ws_A 211 (za Z))) (F0 m 0 ls []) := by
  have C0 := C
  obtain ⟨hx, hb, hr, hlocks, hml, hown, hts, hE, hJ, hK⟩ := C0
  intro σ p0  h H locs hP hS ls hl
  unfold m_X6_turn_0 at h
  refine lv_iload_n hx hb dX6_turn_0 rfl (lv_at hl 0 rfl) ?_
  refine lv_if_ne (tgt := 6) hx hb dX6_turn_1 (by decide) (fun q1 => ?_) (fun q1 => ?_)
  · have h := if_p h q1
    refine lv_iload_n hx hb dX6_turn_6 rfl (lv_at hl 0 rfl) ?_
    refine lv_if_le (tgt := 14) hx hb dX6_turn_7 (by decide) (fun q2 => ?_) (fun q2 => ?_)
    · have h := if_p h q2
      refine lv_iconst (v := (-1)) hx hb dX6_turn_14 (by decide) ?_
      exact xr_iret hx hb hr hlocks hE hJ hK hP hS h dX6_turn_15
    · have h := if_n h q2
      refine lv_iconst (v := 1) hx hb dX6_turn_10 (by decide) ?_
      refine lv_goto (tgt := 15) hx hb dX6_turn_11 (by decide) ?_
      exact xr_iret hx hb hr hlocks hE hJ hK hP hS h dX6_turn_15
  · have h := if_n h (fun z => z q1)
    refine lv_iconst (v := 0) hx hb dX6_turn_4 (by decide) ?_
    exact xr_iret hx hb hr hlocks hE hJ hK hP hS h dX6_turn_5
def m_X6_turn   (σ : SG) (p0 : Int32) : Option (Int32 × SG) := m_X6_turn_0   σ p0
set_option maxHeartbeats 4000000 in
set_option maxRecDepth 100000 in
theorem k_X6_turn (l : Launch) {E : EF} (Z : ZT)    (σ : SG) (p0 : Int32) {res : Int32 × SG} (h : m_X6_turn   σ p0 = some res) : Met l yX6_turn wsX6_turn rm_X6_turn (va_Pc [.int p0] (wx E (zD Z) vwCl 211 (za Z) (tX Z) (tysX Z) σ)) (xQi E (zD Z) vwCl 211 (za Z) (tX Z) (tysX Z) res) 0 0 (ws_A 211 (za Z)) := by
  refine Met.ofW (cc := cX6_turn) (maxL := 1) (ret := (some .int)) (by decide) rfl ?_
  intro p e s m args below meth c s₁ B hml hv
  obtain ⟨rfl, hE, hJ, hP, hK⟩ := hv
  have hl := lv_entry ([.int p0]) (n := 1) (Nat.le_of_ble_eq_true rfl)
  rw [lg_entry_eq]
  generalize (lg_sl ([.int p0]) ++ List.replicate (1 - (lg_sl ([.int p0])).length) Slot.unset).toArray = ls at hl ⊢
  exact kb_X6_turn_0 Z    ⟨B.exec, B.bytes, B.returns, B.notSynchronized, hml, findClass_of_methodNamed B.named, atoms_spec (ws := wsX6_turn) B.pre, hE, hJ, hK⟩ σ p0 h s.heap [] hP va_S.rf ls hl
/-! TuneSearch$Signs.turnOfInterval(LTuneSearch$NoteRow;I)I -/
abbrev rm_X6_turnOfInterval : Room := { frames := 2, cells := 0, slots := 0, locals := 42 }
def m_X6_turnOfInterval_0  (r0 : Nat)  (σ : SG) (p1 : Int32) : Option (Int32 × SG) :=
  bi (m_X6_interval r0 σ p1) (fun v1 σ2 => if ¬ v1 = (-1000) then (bi (m_X6_turn  σ2 v1) (fun v5 σ6 => some (v5, σ6))) else (some ((-1000), σ2)))
set_option maxHeartbeats 4000000 in
set_option maxRecDepth 100000 in
theorem kb_X6_turnOfInterval_0 {p : Program} {l : Launch} {e : Env} {s : State} {m : MethodId} {args : Array Value} {below : List Frame} {meth : Method} {c : Code} {E : EF} (Z : ZT)  (r0 : Nat) (hr0 : r0 < 9) (C : cy p s m args meth c cX6_turnOfInterval (some .int) 3 RX6 wsX6_turnOfInterval E (zD Z) vwCl 211 (za Z) (tysX Z)) {res : Int32 × SG}   : ∀ (σ : SG) (p1 : Int32) , m_X6_turnOfInterval_0  r0  σ p1 = some res → ∀ (H : Heap) (locs : List Loc), ws_P (zD Z) vwCl 211 (za Z) (tX Z) σ H → va_S (ws_A 211 (za Z)) s.heap H locs → ∀ (ls : Array Slot), lv_has ls 3 [(0, .ref (za Z (156 + r0))), (1, .int p1)] → W p l e rm_X6_turnOfInterval s m args below meth c H locs 0 0 (MQ below (xQi E (zD Z) vwCl 211 (za Z) (tX Z) (tysX Z) res) args s 0 0 (ws_A 211 (za Z))) (F0 m 0 ls []) := by
  have C0 := C
  obtain ⟨hx, hb, hr, hlocks, hml, hown, hts, hE, hJ, hK⟩ := C0
  intro σ p1  h H locs hP hS ls hl
  unfold m_X6_turnOfInterval_0 at h
  refine lv_aload_n hx hb dX6_turnOfInterval_0 rfl (lv_at hl 0 rfl) ?_
  refine lv_iload_n hx hb dX6_turnOfInterval_1 rfl (lv_at hl 1 rfl) ?_
  obtain ⟨v1, σ2, hm3, h⟩ := bi_e h
  refine xr_calli (res := (v1, σ2)) (va_runS (As := [.ref (za Z (156 + r0)), .int p1]) (rest := []) ⟨hx, hb, hml, hown, hts⟩ (k_X6_interval l Z r0 hr0 σ p1 hm3) (va_cwS 2 hts gX6_turnOfInterval_X6_interval rfl rfl rfl (by decide +kernel) ⟨Nat.le_of_ble_eq_true rfl, Nat.le_of_ble_eq_true rfl⟩) ⟨wx_blind, fun U hU hW => ⟨rfl, wx_at hE hJ hP hK hS hU hW⟩⟩ rfl rfl hl.1 rfl (lv_room (Nat.le_of_ble_eq_true rfl)) dX6_turnOfInterval_2 ⟨Nat.le_of_ble_eq_true rfl, Nat.le_of_ble_eq_true rfl⟩) hS (fun H locs hP hS => ?_)
  have hP : ws_P (zD Z) vwCl 211 (za Z) (tX Z) σ2 H := hP
  refine lv_istore_n (lv' := [(2, .int v1), (0, .ref (za Z (156 + r0))), (1, .int p1)]) hx hb dX6_turnOfInterval_5 rfl hl (by decide) rfl (fun ls hl => ?_)
  refine lv_iload_n hx hb dX6_turnOfInterval_6 rfl (lv_at hl 0 rfl) ?_
  refine lv_sipush (v := (-1000)) hx hb dX6_turnOfInterval_7 (by decide) ?_
  refine lv_icmp_ne (tgt := 19) hx hb dX6_turnOfInterval_10 (by decide) (fun q4 => ?_) (fun q4 => ?_)
  · have h := if_p h q4
    refine lv_iload_n hx hb dX6_turnOfInterval_19 rfl (lv_at hl 0 rfl) ?_
    obtain ⟨v5, σ6, hm7, h⟩ := bi_e h
    refine xr_calli (res := (v5, σ6)) (va_runS (As := [.int v1]) (rest := []) ⟨hx, hb, hml, hown, hts⟩ (k_X6_turn l Z   σ2 v1 hm7) (va_cwS 1 hts gX6_turnOfInterval_X6_turn rfl rfl rfl (by decide +kernel) ⟨Nat.le_of_ble_eq_true rfl, Nat.le_of_ble_eq_true rfl⟩) ⟨wx_blind, fun U hU hW => ⟨rfl, wx_at hE hJ hP hK hS hU hW⟩⟩ rfl rfl hl.1 rfl (lv_room (Nat.le_of_ble_eq_true rfl)) dX6_turnOfInterval_20 ⟨Nat.le_of_ble_eq_true rfl, Nat.le_of_ble_eq_true rfl⟩) hS (fun H locs hP hS => ?_)
    have hP : ws_P (zD Z) vwCl 211 (za Z) (tX Z) σ6 H := hP
    exact xr_iret hx hb hr hlocks hE hJ hK hP hS h dX6_turnOfInterval_23
  · have h := if_n h (fun z => z q4)
    refine lv_sipush (v := (-1000)) hx hb dX6_turnOfInterval_13 (by decide) ?_
    refine lv_goto (tgt := 23) hx hb dX6_turnOfInterval_16 (by decide) ?_
    exact xr_iret hx hb hr hlocks hE hJ hK hP hS h dX6_turnOfInterval_23
def m_X6_turnOfInterval  (r0 : Nat) (σ : SG) (p1 : Int32) : Option (Int32 × SG) := m_X6_turnOfInterval_0  r0 σ p1
set_option maxHeartbeats 4000000 in
set_option maxRecDepth 100000 in
theorem k_X6_turnOfInterval (l : Launch) {E : EF} (Z : ZT)  (r0 : Nat) (hr0 : r0 < 9) (σ : SG) (p1 : Int32) {res : Int32 × SG} (h : m_X6_turnOfInterval  r0 σ p1 = some res) : Met l yX6_turnOfInterval wsX6_turnOfInterval rm_X6_turnOfInterval (va_Pc [.ref (za Z (156 + r0)), .int p1] (wx E (zD Z) vwCl 211 (za Z) (tX Z) (tysX Z) σ)) (xQi E (zD Z) vwCl 211 (za Z) (tX Z) (tysX Z) res) 0 0 (ws_A 211 (za Z)) := by
  refine Met.ofW (cc := cX6_turnOfInterval) (maxL := 3) (ret := (some .int)) (by decide) rfl ?_
  intro p e s m args below meth c s₁ B hml hv
  obtain ⟨rfl, hE, hJ, hP, hK⟩ := hv
  have hl := lv_entry ([.ref (za Z (156 + r0)), .int p1]) (n := 3) (Nat.le_of_ble_eq_true rfl)
  rw [lg_entry_eq]
  generalize (lg_sl ([.ref (za Z (156 + r0)), .int p1]) ++ List.replicate (3 - (lg_sl ([.ref (za Z (156 + r0)), .int p1])).length) Slot.unset).toArray = ls at hl ⊢
  exact kb_X6_turnOfInterval_0 Z  r0 hr0 ⟨B.exec, B.bytes, B.returns, B.notSynchronized, hml, findClass_of_methodNamed B.named, atoms_spec (ws := wsX6_turnOfInterval) B.pre, hE, hJ, hK⟩ σ p1 h s.heap [] hP va_S.rf ls hl
/-! TuneSearch$Signs.signOf(LTuneSearch$NoteRow;II)I -/
abbrev rm_X6_signOf : Room := { frames := 3, cells := 0, slots := 0, locals := 64 }
theorem in_X6_signOf_X4 : ∀ w ∈ wsX40, w ∈ wsX6_signOf := by decide +kernel
def m_X6_signOf_0  (r0 : Nat)  (σ : SG) (p1 : Int32) (p2 : Int32) : Option (Int32 × SG) :=
  if p2 = 0 then (bi (m_X4_isRest r0 σ p1) (fun v2 σ3 => if v2 = 0 then (gB (inB p1 (lenX (2 * r0))) (some (σ3.1 (2 * r0) p1.toNatClampNeg, σ3))) else (some ((-1000), σ3)))) else (if p2 = 1 then (bi (m_X6_interval r0 σ p1) (fun v8 σ9 => some (v8, σ9))) else (if p2 = 2 then (bi (m_X6_turnOfInterval r0 σ p1) (fun v12 σ13 => some (v12, σ13))) else (if p2 = 3 then (gB (inB p1 (lenX (2 * r0 + 1))) (some (σ.1 (2 * r0 + 1) p1.toNatClampNeg, σ))) else (gB (inB p1 (lenX (2 * r0 + 1))) (gB (inB (p1 - 1) (lenX (2 * r0 + 1))) (bi (m_X6_turn  σ ((σ.1 (2 * r0 + 1) p1.toNatClampNeg) - (σ.1 (2 * r0 + 1) (p1 - 1).toNatClampNeg))) (fun v19 σ20 => some (v19, σ20))))))))
set_option maxHeartbeats 4000000 in
set_option maxRecDepth 100000 in
theorem kb_X6_signOf_0 {p : Program} {l : Launch} {e : Env} {s : State} {m : MethodId} {args : Array Value} {below : List Frame} {meth : Method} {c : Code} {E : EF} (Z : ZT)  (r0 : Nat) (hr0 : r0 < 9) (C : cy p s m args meth c cX6_signOf (some .int) 3 RX6 wsX6_signOf E (zD Z) vwCl 211 (za Z) (tysX Z)) {res : Int32 × SG}   : ∀ (σ : SG) (p1 : Int32) (p2 : Int32) , m_X6_signOf_0  r0  σ p1 p2 = some res → ∀ (H : Heap) (locs : List Loc), ws_P (zD Z) vwCl 211 (za Z) (tX Z) σ H → va_S (ws_A 211 (za Z)) s.heap H locs → ∀ (ls : Array Slot), lv_has ls 3 [(0, .ref (za Z (156 + r0))), (1, .int p1), (2, .int p2)] → W p l e rm_X6_signOf s m args below meth c H locs 0 0 (MQ below (xQi E (zD Z) vwCl 211 (za Z) (tX Z) (tysX Z) res) args s 0 0 (ws_A 211 (za Z))) (F0 m 0 ls []) := by
  have C0 := C
  obtain ⟨hx, hb, hr, hlocks, hml, hown, hts, hE, hJ, hK⟩ := C0
  intro σ p1 p2  h H locs hP hS ls hl
  unfold m_X6_signOf_0 at h
  refine lv_iload_n hx hb dX6_signOf_0 rfl (lv_at hl 2 rfl) ?_
  by_cases q1 : p2 = 0
  · have h := if_p h q1
    refine lv_tableIn (tgt := 32) hx hb dX6_signOf_1 (by rw [q1]; decide) (by rw [q1]; decide) (by rw [q1]; rfl) (by decide) ?_
    refine lv_aload_n hx hb dX6_signOf_32 rfl (lv_at hl 0 rfl) ?_
    refine lv_iload_n hx hb dX6_signOf_33 rfl (lv_at hl 1 rfl) ?_
    obtain ⟨v2, σ3, hm4, h⟩ := bi_e h
    refine xr_calli (res := (v2, σ3)) (va_runV (As := [.int p1]) (rest := []) ⟨hx, hb, hml, hown, hts⟩ (k_X4_isRest l Z r0 hr0 σ p1 hm4) (cwV 1 hts gX6_signOf_X4_isRest rfl rfl rfl (by decide +kernel) ⟨Nat.le_of_ble_eq_true rfl, Nat.le_of_ble_eq_true rfl⟩) ⟨wx_blind, wr_recv hK hP (k := (156 + r0)) (by omega) ((tX_NoteRow Z r0 hr0) _ _ _) rfl, fun U hU hW => ⟨rfl, wx_at hE hJ hP hK hS hU hW⟩⟩ rfl rfl hl.1 rfl (lv_room (Nat.le_of_ble_eq_true rfl)) dX6_signOf_34 ⟨Nat.le_of_ble_eq_true rfl, Nat.le_of_ble_eq_true rfl⟩) hS (fun H locs hP hS => ?_)
    have hP : ws_P (zD Z) vwCl 211 (za Z) (tX Z) σ3 H := hP
    refine lv_if_eq (tgt := 46) hx hb dX6_signOf_37 (by decide) (fun q5 => ?_) (fun q5 => ?_)
    · have h := if_p h q5
      refine lv_aload_n hx hb dX6_signOf_46 rfl (lv_at hl 0 rfl) ?_
      refine wr_get (C := RX4) (T := TX4) (N := 3) hx hb hts (in_X6_signOf_X4) hown hK hP (k := (156 + r0)) (by omega) ((tX_NoteRow Z r0 hr0) _ _ _) rfl 0 (by decide) (hts (.fieldLink RX6 30 "TuneSearch$NoteRow" "pitches" "[I") (by decide +kernel)) (fun _ h9 => h9) rfl dX6_signOf_47 ?_
      refine lv_iload_n hx hb dX6_signOf_50 rfl (lv_at hl 1 rfl) ?_
      obtain ⟨b6, h⟩ := gB_e h
      refine wr_iald hx hb hK hP (k := (2 * r0)) (by omega) 0 ((tX_I Z (2 * r0) (by omega)) _ _ _) rfl b6 dX6_signOf_51 ?_
      exact xr_iret hx hb hr hlocks hE hJ hK hP hS h dX6_signOf_52
    · have h := if_n h q5
      refine lv_sipush (v := (-1000)) hx hb dX6_signOf_40 (by decide) ?_
      refine lv_goto (tgt := 52) hx hb dX6_signOf_43 (by decide) ?_
      exact xr_iret hx hb hr hlocks hE hJ hK hP hS h dX6_signOf_52
  · have h := if_n h q1
    by_cases q7 : p2 = 1
    · have h := if_p h q7
      refine lv_tableIn (tgt := 53) hx hb dX6_signOf_1 (by rw [q7]; decide) (by rw [q7]; decide) (by rw [q7]; rfl) (by decide) ?_
      refine lv_aload_n hx hb dX6_signOf_53 rfl (lv_at hl 0 rfl) ?_
      refine lv_iload_n hx hb dX6_signOf_54 rfl (lv_at hl 1 rfl) ?_
      obtain ⟨v8, σ9, hm10, h⟩ := bi_e h
      refine xr_calli (res := (v8, σ9)) (va_runS (As := [.ref (za Z (156 + r0)), .int p1]) (rest := []) ⟨hx, hb, hml, hown, hts⟩ (k_X6_interval l Z r0 hr0 σ p1 hm10) (va_cwS 2 hts gX6_signOf_X6_interval rfl rfl rfl (by decide +kernel) ⟨Nat.le_of_ble_eq_true rfl, Nat.le_of_ble_eq_true rfl⟩) ⟨wx_blind, fun U hU hW => ⟨rfl, wx_at hE hJ hP hK hS hU hW⟩⟩ rfl rfl hl.1 rfl (lv_room (Nat.le_of_ble_eq_true rfl)) dX6_signOf_55 ⟨Nat.le_of_ble_eq_true rfl, Nat.le_of_ble_eq_true rfl⟩) hS (fun H locs hP hS => ?_)
      have hP : ws_P (zD Z) vwCl 211 (za Z) (tX Z) σ9 H := hP
      exact xr_iret hx hb hr hlocks hE hJ hK hP hS h dX6_signOf_58
    · have h := if_n h q7
      by_cases q11 : p2 = 2
      · have h := if_p h q11
        refine lv_tableIn (tgt := 59) hx hb dX6_signOf_1 (by rw [q11]; decide) (by rw [q11]; decide) (by rw [q11]; rfl) (by decide) ?_
        refine lv_aload_n hx hb dX6_signOf_59 rfl (lv_at hl 0 rfl) ?_
        refine lv_iload_n hx hb dX6_signOf_60 rfl (lv_at hl 1 rfl) ?_
        obtain ⟨v12, σ13, hm14, h⟩ := bi_e h
        refine xr_calli (res := (v12, σ13)) (va_runS (As := [.ref (za Z (156 + r0)), .int p1]) (rest := []) ⟨hx, hb, hml, hown, hts⟩ (k_X6_turnOfInterval l Z r0 hr0 σ p1 hm14) (va_cwS 2 hts gX6_signOf_X6_turnOfInterval rfl rfl rfl (by decide +kernel) ⟨Nat.le_of_ble_eq_true rfl, Nat.le_of_ble_eq_true rfl⟩) ⟨wx_blind, fun U hU hW => ⟨rfl, wx_at hE hJ hP hK hS hU hW⟩⟩ rfl rfl hl.1 rfl (lv_room (Nat.le_of_ble_eq_true rfl)) dX6_signOf_61 ⟨Nat.le_of_ble_eq_true rfl, Nat.le_of_ble_eq_true rfl⟩) hS (fun H locs hP hS => ?_)
        have hP : ws_P (zD Z) vwCl 211 (za Z) (tX Z) σ13 H := hP
        exact xr_iret hx hb hr hlocks hE hJ hK hP hS h dX6_signOf_64
      · have h := if_n h q11
        by_cases q15 : p2 = 3
        · have h := if_p h q15
          refine lv_tableIn (tgt := 65) hx hb dX6_signOf_1 (by rw [q15]; decide) (by rw [q15]; decide) (by rw [q15]; rfl) (by decide) ?_
          refine lv_aload_n hx hb dX6_signOf_65 rfl (lv_at hl 0 rfl) ?_
          refine wr_get (C := RX4) (T := TX4) (N := 3) hx hb hts (in_X6_signOf_X4) hown hK hP (k := (156 + r0)) (by omega) ((tX_NoteRow Z r0 hr0) _ _ _) rfl 1 (by decide) (hts (.fieldLink RX6 40 "TuneSearch$NoteRow" "lengths" "[I") (by decide +kernel)) (fun _ h9 => h9) rfl dX6_signOf_66 ?_
          refine lv_iload_n hx hb dX6_signOf_69 rfl (lv_at hl 1 rfl) ?_
          obtain ⟨b16, h⟩ := gB_e h
          refine wr_iald hx hb hK hP (k := (2 * r0 + 1)) (by omega) 0 ((tX_I Z (2 * r0 + 1) (by omega)) _ _ _) rfl b16 dX6_signOf_70 ?_
          exact xr_iret hx hb hr hlocks hE hJ hK hP hS h dX6_signOf_71
        · have h := if_n h q15
          have z22 : (p2 : Int32).toInt < 0 ∨ 3 < (p2 : Int32).toInt := by
            rcases Classical.em ((p2 : Int32).toInt < 0 ∨ 3 < (p2 : Int32).toInt) with z | z
            · exact z
            · exfalso
              have z2 : (p2 : Int32).toInt = 0 ∨ (p2 : Int32).toInt = 1 ∨ (p2 : Int32).toInt = 2 ∨ (p2 : Int32).toInt = 3 := by omega
              rcases z2 with z2 | z2 | z2 | z2
              · exact q1 (Int32.toInt_inj.mp (z2.trans (by decide)))
              · exact q7 (Int32.toInt_inj.mp (z2.trans (by decide)))
              · exact q11 (Int32.toInt_inj.mp (z2.trans (by decide)))
              · exact q15 (Int32.toInt_inj.mp (z2.trans (by decide)))
          refine lv_tableOut (tgt := 72) hx hb dX6_signOf_1 z22 (by decide) ?_
          refine lv_aload_n hx hb dX6_signOf_72 rfl (lv_at hl 0 rfl) ?_
          refine wr_get (C := RX4) (T := TX4) (N := 3) hx hb hts (in_X6_signOf_X4) hown hK hP (k := (156 + r0)) (by omega) ((tX_NoteRow Z r0 hr0) _ _ _) rfl 1 (by decide) (hts (.fieldLink RX6 40 "TuneSearch$NoteRow" "lengths" "[I") (by decide +kernel)) (fun _ h9 => h9) rfl dX6_signOf_73 ?_
          refine lv_iload_n hx hb dX6_signOf_76 rfl (lv_at hl 1 rfl) ?_
          obtain ⟨b17, h⟩ := gB_e h
          refine wr_iald hx hb hK hP (k := (2 * r0 + 1)) (by omega) 0 ((tX_I Z (2 * r0 + 1) (by omega)) _ _ _) rfl b17 dX6_signOf_77 ?_
          refine lv_aload_n hx hb dX6_signOf_78 rfl (lv_at hl 0 rfl) ?_
          refine wr_get (C := RX4) (T := TX4) (N := 3) hx hb hts (in_X6_signOf_X4) hown hK hP (k := (156 + r0)) (by omega) ((tX_NoteRow Z r0 hr0) _ _ _) rfl 1 (by decide) (hts (.fieldLink RX6 40 "TuneSearch$NoteRow" "lengths" "[I") (by decide +kernel)) (fun _ h9 => h9) rfl dX6_signOf_79 ?_
          refine lv_iload_n hx hb dX6_signOf_82 rfl (lv_at hl 1 rfl) ?_
          refine lv_iconst (v := 1) hx hb dX6_signOf_83 (by decide) ?_
          refine lv_isub hx hb dX6_signOf_84 ?_
          obtain ⟨b18, h⟩ := gB_e h
          refine wr_iald hx hb hK hP (k := (2 * r0 + 1)) (by omega) 0 ((tX_I Z (2 * r0 + 1) (by omega)) _ _ _) rfl b18 dX6_signOf_85 ?_
          refine lv_isub hx hb dX6_signOf_86 ?_
          obtain ⟨v19, σ20, hm21, h⟩ := bi_e h
          refine xr_calli (res := (v19, σ20)) (va_runS (As := [.int ((σ.1 (2 * r0 + 1) p1.toNatClampNeg) - (σ.1 (2 * r0 + 1) (p1 - 1).toNatClampNeg))]) (rest := []) ⟨hx, hb, hml, hown, hts⟩ (k_X6_turn l Z   σ ((σ.1 (2 * r0 + 1) p1.toNatClampNeg) - (σ.1 (2 * r0 + 1) (p1 - 1).toNatClampNeg)) hm21) (va_cwS 1 hts gX6_signOf_X6_turn rfl rfl rfl (by decide +kernel) ⟨Nat.le_of_ble_eq_true rfl, Nat.le_of_ble_eq_true rfl⟩) ⟨wx_blind, fun U hU hW => ⟨rfl, wx_at hE hJ hP hK hS hU hW⟩⟩ rfl rfl hl.1 rfl (lv_room (Nat.le_of_ble_eq_true rfl)) dX6_signOf_87 ⟨Nat.le_of_ble_eq_true rfl, Nat.le_of_ble_eq_true rfl⟩) hS (fun H locs hP hS => ?_)
          have hP : ws_P (zD Z) vwCl 211 (za Z) (tX Z) σ20 H := hP
          exact xr_iret hx hb hr hlocks hE hJ hK hP hS h dX6_signOf_90
def m_X6_signOf  (r0 : Nat) (σ : SG) (p1 : Int32) (p2 : Int32) : Option (Int32 × SG) := m_X6_signOf_0  r0 σ p1 p2
set_option maxHeartbeats 4000000 in
set_option maxRecDepth 100000 in
theorem k_X6_signOf (l : Launch) {E : EF} (Z : ZT)  (r0 : Nat) (hr0 : r0 < 9) (σ : SG) (p1 : Int32) (p2 : Int32) {res : Int32 × SG} (h : m_X6_signOf  r0 σ p1 p2 = some res) : Met l yX6_signOf wsX6_signOf rm_X6_signOf (va_Pc [.ref (za Z (156 + r0)), .int p1, .int p2] (wx E (zD Z) vwCl 211 (za Z) (tX Z) (tysX Z) σ)) (xQi E (zD Z) vwCl 211 (za Z) (tX Z) (tysX Z) res) 0 0 (ws_A 211 (za Z)) := by
  refine Met.ofW (cc := cX6_signOf) (maxL := 3) (ret := (some .int)) (by decide) rfl ?_
  intro p e s m args below meth c s₁ B hml hv
  obtain ⟨rfl, hE, hJ, hP, hK⟩ := hv
  have hl := lv_entry ([.ref (za Z (156 + r0)), .int p1, .int p2]) (n := 3) (Nat.le_of_ble_eq_true rfl)
  rw [lg_entry_eq]
  generalize (lg_sl ([.ref (za Z (156 + r0)), .int p1, .int p2]) ++ List.replicate (3 - (lg_sl ([.ref (za Z (156 + r0)), .int p1, .int p2])).length) Slot.unset).toArray = ls at hl ⊢
  exact kb_X6_signOf_0 Z  r0 hr0 ⟨B.exec, B.bytes, B.returns, B.notSynchronized, hml, findClass_of_methodNamed B.named, atoms_spec (ws := wsX6_signOf) B.pre, hE, hJ, hK⟩ σ p1 p2 h s.heap [] hP va_S.rf ls hl
/-! TuneSearch$Signs.look(LTuneSearch$NoteRow;I)V -/
abbrev rm_X6_look : Room := { frames := 4, cells := 0, slots := 0, locals := 86 }
theorem in_X6_look_X4 : ∀ w ∈ wsX40, w ∈ wsX6_look := by decide +kernel
theorem in_X6_look_X6 : ∀ w ∈ wsX60, w ∈ wsX6_look := by decide +kernel
def m_X6_look_23_s  (r0 : Nat)  (c23 : SG → Int32 → Int32 → Option (Unit × SG)) (σ : SG) (l2 : Int32) (l4 : Int32) : Option (Unit × SG) :=
  if (σ.1 (156 + r0) 2) ≤ l4 then (some ((), σ)) else (bi (m_X6_signOf r0 σ l4 l2) (fun v6 σ7 => gB (inB (σ.1 205 1) 24) (lS (sI σ7 20 (σ.1 205 1).toNatClampNeg v6) (fun σ10 => lS (sI σ10 205 1 ((σ10.1 205 1) + 1)) (fun σ12 => lS (l4 + 1) (fun v14 => c23 σ12 l2 v14))))))
def m_X6_look_23  (r0 : Nat)  : Nat → SG → Int32 → Int32 → Option (Unit × SG)
  | 0, _, _, _ => none
  | n + 1, σ, l2, l4 => m_X6_look_23_s  r0  (m_X6_look_23  r0  n) σ l2 l4
set_option maxHeartbeats 4000000 in
set_option maxRecDepth 100000 in
theorem kb_X6_look_23 {p : Program} {l : Launch} {e : Env} {s : State} {m : MethodId} {args : Array Value} {below : List Frame} {meth : Method} {c : Code} {E : EF} (Z : ZT)  (r0 : Nat) (hr0 : r0 < 9) (C : cy p s m args meth c cX6_look none 5 RX6 wsX6_look E (zD Z) vwCl 211 (za Z) (tysX Z)) {res : Unit × SG}   : ∀ (n : Nat) (σ : SG) (l2 : Int32) (l4 : Int32) , m_X6_look_23  r0  n σ l2 l4 = some res → ∀ (H : Heap) (locs : List Loc), ws_P (zD Z) vwCl 211 (za Z) (tX Z) σ H → va_S (ws_A 211 (za Z)) s.heap H locs → ∀ (ls : Array Slot), lv_has ls 5 [(0, .ref (za Z 205)), (1, .ref (za Z (156 + r0))), (2, .int l2), (4, .int l4)] → W p l e rm_X6_look s m args below meth c H locs 0 0 (MQ below (xQv E (zD Z) vwCl 211 (za Z) (tX Z) (tysX Z) res) args s 0 0 (ws_A 211 (za Z))) (F0 m 23 ls []) := by
  have C0 := C
  obtain ⟨hx, hb, hr, hlocks, hml, hown, hts, hE, hJ, hK⟩ := C0
  intro n
  induction n with
  | zero =>
    intro σ l2 l4  h
    cases h
  | succ n ih =>
    intro σ l2 l4  h H locs hP hS ls hl
    have hc23 : ∀ (σ : SG) (l2 : Int32) (l4 : Int32) , m_X6_look_23  r0  n σ l2 l4 = some res → ∀ (H : Heap) (locs : List Loc), ws_P (zD Z) vwCl 211 (za Z) (tX Z) σ H → va_S (ws_A 211 (za Z)) s.heap H locs → ∀ (ls : Array Slot), lv_has ls 5 [(0, .ref (za Z 205)), (1, .ref (za Z (156 + r0))), (2, .int l2), (4, .int l4)] → W p l e rm_X6_look s m args below meth c H locs 0 0 (MQ below (xQv E (zD Z) vwCl 211 (za Z) (tX Z) (tysX Z) res) args s 0 0 (ws_A 211 (za Z))) (F0 m 23 ls []) := ih
    have h : m_X6_look_23_s  r0  (m_X6_look_23  r0  n) σ l2 l4 = some res := h
    unfold m_X6_look_23_s at h
    refine lv_iload hx hb dX6_look_23 (lv_at hl 3 rfl) ?_
    refine lv_aload_n hx hb dX6_look_25 rfl (lv_at hl 1 rfl) ?_
    refine wr_get (C := RX4) (T := TX4) (N := 3) hx hb hts (in_X6_look_X4) hown hK hP (k := (156 + r0)) (by omega) ((tX_NoteRow Z r0 hr0) _ _ _) rfl 2 (by decide) (hts (.fieldLink RX6 19 "TuneSearch$NoteRow" "count" "I") (by decide +kernel)) (fun _ h9 => h9) rfl dX6_look_26 ?_
    refine lv_icmp_ge (tgt := 64) hx hb dX6_look_29 (by decide) (fun q5 => ?_) (fun q5 => ?_)
    · have h := if_p h q5
      exact xr_vret hx hb hr hlocks hE hJ hK hP hS h dX6_look_64
    · have h := if_n h q5
      refine lv_aload_n hx hb dX6_look_32 rfl (lv_at hl 0 rfl) ?_
      refine wr_get (C := RX6) (T := TX6) (N := 2) hx hb hts (in_X6_look_X6) hown hK hP (k := 205) (by decide) ((tX_Signs Z) _ _ _) rfl 0 (by decide) (hts (.fieldLink RX6 9 "TuneSearch$Signs" "row" "[I") (by decide +kernel)) (fun _ h9 => h9) rfl dX6_look_33 ?_
      refine lv_aload_n hx hb dX6_look_36 rfl (lv_at hl 0 rfl) ?_
      refine wr_get (C := RX6) (T := TX6) (N := 2) hx hb hts (in_X6_look_X6) hown hK hP (k := 205) (by decide) ((tX_Signs Z) _ _ _) rfl 1 (by decide) (hts (.fieldLink RX6 15 "TuneSearch$Signs" "count" "I") (by decide +kernel)) (fun _ h9 => h9) rfl dX6_look_37 ?_
      refine lv_aload_n hx hb dX6_look_40 rfl (lv_at hl 1 rfl) ?_
      refine lv_iload hx hb dX6_look_41 (lv_at hl 3 rfl) ?_
      refine lv_iload_n hx hb dX6_look_43 rfl (lv_at hl 2 rfl) ?_
      obtain ⟨v6, σ7, hm8, h⟩ := bi_e h
      refine xr_calli (res := (v6, σ7)) (va_runS (As := [.ref (za Z (156 + r0)), .int l4, .int l2]) (rest := [.int (σ.1 205 1), .ref (za Z 20)]) ⟨hx, hb, hml, hown, hts⟩ (k_X6_signOf l Z r0 hr0 σ l4 l2 hm8) (va_cwS 3 hts gX6_look_X6_signOf rfl rfl rfl (by decide +kernel) ⟨Nat.le_of_ble_eq_true rfl, Nat.le_of_ble_eq_true rfl⟩) ⟨wx_blind, fun U hU hW => ⟨rfl, wx_at hE hJ hP hK hS hU hW⟩⟩ rfl rfl hl.1 rfl (lv_room (Nat.le_of_ble_eq_true rfl)) dX6_look_44 ⟨Nat.le_of_ble_eq_true rfl, Nat.le_of_ble_eq_true rfl⟩) hS (fun H locs hP hS => ?_)
      have hP : ws_P (zD Z) vwCl 211 (za Z) (tX Z) σ7 H := hP
      obtain ⟨b9, h⟩ := gB_e h
      refine wr_iast hx hb hK hP hJ hS (k := 20) (by decide) 0 (tX_I Z 20 (by decide)) rfl b9 dX6_look_47 (fun H locs hP hS => ?_)
      obtain ⟨σ10, e11, h⟩ := lS_e h
      rw [← e11] at hP
      refine lv_aload_n hx hb dX6_look_48 rfl (lv_at hl 0 rfl) ?_
      refine lv_dup hx hb dX6_look_49 rfl ?_
      refine wr_get (C := RX6) (T := TX6) (N := 2) hx hb hts (in_X6_look_X6) hown hK hP (k := 205) (by decide) ((tX_Signs Z) _ _ _) rfl 1 (by decide) (hts (.fieldLink RX6 15 "TuneSearch$Signs" "count" "I") (by decide +kernel)) (fun _ h9 => h9) rfl dX6_look_50 ?_
      refine lv_iconst (v := 1) hx hb dX6_look_53 (by decide) ?_
      refine lv_iadd hx hb dX6_look_54 ?_
      refine wr_put (C := RX6) (T := TX6) (N := 2) (σ' := sI σ10 205 1 ((σ10.1 205 1) + 1)) (ty := .int) hx hb hts (in_X6_look_X6) tyX6 tyX6_ok nmX6 hown hK hP hJ hS (k := 205) (by decide) ((tX_Signs Z) _ _ _) rfl 1 (by decide) (hts (.fieldLink RX6 15 "TuneSearch$Signs" "count" "I") (by decide +kernel)) (fun _ h9 => h9) rfl (by decide +kernel) rfl rfl (Nat.le_of_ble_eq_true rfl) (ws_pI (tX_Signs Z) rfl) dX6_look_55 (fun H locs hP hS => ?_)
      obtain ⟨σ12, e13, h⟩ := lS_e h
      rw [← e13] at hP
      obtain ⟨v14, e15, h⟩ := lS_e h
      refine lv_iinc (v := v14) (lv' := [(4, .int v14), (0, .ref (za Z 205)), (1, .ref (za Z (156 + r0))), (2, .int l2)]) hx hb dX6_look_58 hl (k := 3) rfl (by rw [e15]; rfl) (by decide) rfl (fun ls hl => ?_)
      refine lv_goto (tgt := 23) hx hb dX6_look_61 (by decide) ?_
      exact hc23 σ12 l2 v14 h H locs hP hS ls (lv_sub hl [1, 2, 3, 0] rfl)
def m_X6_look_19  (r0 : Nat)  (σ : SG) (l2 : Int32) (s0 : Int32) : Option (Unit × SG) :=
  m_X6_look_23  r0  FV σ l2 s0
set_option maxHeartbeats 4000000 in
set_option maxRecDepth 100000 in
theorem kb_X6_look_19 {p : Program} {l : Launch} {e : Env} {s : State} {m : MethodId} {args : Array Value} {below : List Frame} {meth : Method} {c : Code} {E : EF} (Z : ZT)  (r0 : Nat) (hr0 : r0 < 9) (C : cy p s m args meth c cX6_look none 5 RX6 wsX6_look E (zD Z) vwCl 211 (za Z) (tysX Z)) {res : Unit × SG}   : ∀ (σ : SG) (l2 : Int32) (s0 : Int32) , m_X6_look_19  r0  σ l2 s0 = some res → ∀ (H : Heap) (locs : List Loc), ws_P (zD Z) vwCl 211 (za Z) (tX Z) σ H → va_S (ws_A 211 (za Z)) s.heap H locs → ∀ (ls : Array Slot), lv_has ls 5 [(0, .ref (za Z 205)), (1, .ref (za Z (156 + r0))), (2, .int l2)] → W p l e rm_X6_look s m args below meth c H locs 0 0 (MQ below (xQv E (zD Z) vwCl 211 (za Z) (tX Z) (tysX Z) res) args s 0 0 (ws_A 211 (za Z))) (F0 m 19 ls [.int s0]) := by
  have C0 := C
  obtain ⟨hx, hb, hr, hlocks, hml, hown, hts, hE, hJ, hK⟩ := C0
  intro σ l2 s0  h H locs hP hS ls hl
  unfold m_X6_look_19 at h
  refine lv_istore_n (lv' := [(3, .int s0), (0, .ref (za Z 205)), (1, .ref (za Z (156 + r0))), (2, .int l2)]) hx hb dX6_look_19 rfl hl (by decide) rfl (fun ls hl => ?_)
  refine lv_iload_n hx hb dX6_look_20 rfl (lv_at hl 0 rfl) ?_
  refine lv_istore (lv' := [(4, .int s0), (3, .int s0), (0, .ref (za Z 205)), (1, .ref (za Z (156 + r0))), (2, .int l2)]) hx hb dX6_look_21 hl (by decide) rfl (fun ls hl => ?_)
  exact kb_X6_look_23 Z  r0 hr0 C   FV σ l2 s0 h H locs hP hS ls (lv_sub hl [2, 3, 4, 0] rfl)
def m_X6_look_14  (r0 : Nat)  (σ : SG) (l2 : Int32) : Option (Unit × SG) :=
  m_X6_look_19  r0  σ l2 0
set_option maxHeartbeats 4000000 in
set_option maxRecDepth 100000 in
theorem kb_X6_look_14 {p : Program} {l : Launch} {e : Env} {s : State} {m : MethodId} {args : Array Value} {below : List Frame} {meth : Method} {c : Code} {E : EF} (Z : ZT)  (r0 : Nat) (hr0 : r0 < 9) (C : cy p s m args meth c cX6_look none 5 RX6 wsX6_look E (zD Z) vwCl 211 (za Z) (tysX Z)) {res : Unit × SG}   : ∀ (σ : SG) (l2 : Int32) , m_X6_look_14  r0  σ l2 = some res → ∀ (H : Heap) (locs : List Loc), ws_P (zD Z) vwCl 211 (za Z) (tX Z) σ H → va_S (ws_A 211 (za Z)) s.heap H locs → ∀ (ls : Array Slot), lv_has ls 5 [(0, .ref (za Z 205)), (1, .ref (za Z (156 + r0))), (2, .int l2)] → W p l e rm_X6_look s m args below meth c H locs 0 0 (MQ below (xQv E (zD Z) vwCl 211 (za Z) (tX Z) (tysX Z) res) args s 0 0 (ws_A 211 (za Z))) (F0 m 14 ls []) := by
  have C0 := C
  obtain ⟨hx, hb, hr, hlocks, hml, hown, hts, hE, hJ, hK⟩ := C0
  intro σ l2  h H locs hP hS ls hl
  unfold m_X6_look_14 at h
  refine lv_iconst (v := 0) hx hb dX6_look_14 (by decide) ?_
  refine lv_goto (tgt := 19) hx hb dX6_look_15 (by decide) ?_
  exact kb_X6_look_19 Z  r0 hr0 C   σ l2 0 h H locs hP hS ls (lv_sub hl [0, 1, 2] rfl)
def m_X6_look_0  (r0 : Nat)  (σ : SG) (p1 : Int32) : Option (Unit × SG) :=
  lS (sI σ 205 1 0) (fun σ1 => if p1 = 0 then (m_X6_look_14  r0  σ1 p1) else (if ¬ p1 = 3 then (m_X6_look_19  r0  σ1 p1 1) else (m_X6_look_14  r0  σ1 p1)))
set_option maxHeartbeats 4000000 in
set_option maxRecDepth 100000 in
theorem kb_X6_look_0 {p : Program} {l : Launch} {e : Env} {s : State} {m : MethodId} {args : Array Value} {below : List Frame} {meth : Method} {c : Code} {E : EF} (Z : ZT)  (r0 : Nat) (hr0 : r0 < 9) (C : cy p s m args meth c cX6_look none 5 RX6 wsX6_look E (zD Z) vwCl 211 (za Z) (tysX Z)) {res : Unit × SG}   : ∀ (σ : SG) (p1 : Int32) , m_X6_look_0  r0  σ p1 = some res → ∀ (H : Heap) (locs : List Loc), ws_P (zD Z) vwCl 211 (za Z) (tX Z) σ H → va_S (ws_A 211 (za Z)) s.heap H locs → ∀ (ls : Array Slot), lv_has ls 5 [(0, .ref (za Z 205)), (1, .ref (za Z (156 + r0))), (2, .int p1)] → W p l e rm_X6_look s m args below meth c H locs 0 0 (MQ below (xQv E (zD Z) vwCl 211 (za Z) (tX Z) (tysX Z) res) args s 0 0 (ws_A 211 (za Z))) (F0 m 0 ls []) := by
  have C0 := C
  obtain ⟨hx, hb, hr, hlocks, hml, hown, hts, hE, hJ, hK⟩ := C0
  intro σ p1  h H locs hP hS ls hl
  unfold m_X6_look_0 at h
  refine lv_aload_n hx hb dX6_look_0 rfl (lv_at hl 0 rfl) ?_
  refine lv_iconst (v := 0) hx hb dX6_look_1 (by decide) ?_
  refine wr_put (C := RX6) (T := TX6) (N := 2) (σ' := sI σ 205 1 0) (ty := .int) hx hb hts (in_X6_look_X6) tyX6 tyX6_ok nmX6 hown hK hP hJ hS (k := 205) (by decide) ((tX_Signs Z) _ _ _) rfl 1 (by decide) (hts (.fieldLink RX6 15 "TuneSearch$Signs" "count" "I") (by decide +kernel)) (fun _ h9 => h9) rfl (by decide +kernel) rfl rfl (Nat.le_of_ble_eq_true rfl) (ws_pI (tX_Signs Z) rfl) dX6_look_2 (fun H locs hP hS => ?_)
  obtain ⟨σ1, e2, h⟩ := lS_e h
  rw [← e2] at hP
  refine lv_iload_n hx hb dX6_look_5 rfl (lv_at hl 2 rfl) ?_
  refine lv_if_eq (tgt := 14) hx hb dX6_look_6 (by decide) (fun q3 => ?_) (fun q3 => ?_)
  · have h := if_p h q3
    exact kb_X6_look_14 Z  r0 hr0 C   σ1 p1 h H locs hP hS ls (lv_sub hl [0, 1, 2] rfl)
  · have h := if_n h q3
    refine lv_iload_n hx hb dX6_look_9 rfl (lv_at hl 2 rfl) ?_
    refine lv_iconst (v := 3) hx hb dX6_look_10 (by decide) ?_
    refine lv_icmp_ne (tgt := 18) hx hb dX6_look_11 (by decide) (fun q4 => ?_) (fun q4 => ?_)
    · have h := if_p h q4
      refine lv_iconst (v := 1) hx hb dX6_look_18 (by decide) ?_
      exact kb_X6_look_19 Z  r0 hr0 C   σ1 p1 1 h H locs hP hS ls (lv_sub hl [0, 1, 2] rfl)
    · have h := if_n h (fun z => z q4)
      exact kb_X6_look_14 Z  r0 hr0 C   σ1 p1 h H locs hP hS ls (lv_sub hl [0, 1, 2] rfl)
def m_X6_look  (r0 : Nat) (σ : SG) (p1 : Int32) : Option (Unit × SG) := m_X6_look_0  r0 σ p1
set_option maxHeartbeats 4000000 in
set_option maxRecDepth 100000 in
theorem k_X6_look (l : Launch) {E : EF} (Z : ZT)  (r0 : Nat) (hr0 : r0 < 9) (σ : SG) (p1 : Int32) {res : Unit × SG} (h : m_X6_look  r0 σ p1 = some res) : Met l yX6_look wsX6_look rm_X6_look (va_Pc [.ref (za Z 205), .ref (za Z (156 + r0)), .int p1] (wx E (zD Z) vwCl 211 (za Z) (tX Z) (tysX Z) σ)) (xQv E (zD Z) vwCl 211 (za Z) (tX Z) (tysX Z) res) 0 0 (ws_A 211 (za Z)) := by
  refine Met.ofW (cc := cX6_look) (maxL := 5) (ret := none) (by decide) rfl ?_
  intro p e s m args below meth c s₁ B hml hv
  obtain ⟨rfl, hE, hJ, hP, hK⟩ := hv
  have hl := lv_entry ([.ref (za Z 205), .ref (za Z (156 + r0)), .int p1]) (n := 5) (Nat.le_of_ble_eq_true rfl)
  rw [lg_entry_eq]
  generalize (lg_sl ([.ref (za Z 205), .ref (za Z (156 + r0)), .int p1]) ++ List.replicate (5 - (lg_sl ([.ref (za Z 205), .ref (za Z (156 + r0)), .int p1])).length) Slot.unset).toArray = ls at hl ⊢
  exact kb_X6_look_0 Z  r0 hr0 ⟨B.exec, B.bytes, B.returns, B.notSynchronized, hml, findClass_of_methodNamed B.named, atoms_spec (ws := wsX6_look) B.pre, hE, hJ, hK⟩ σ p1 h s.heap [] hP va_S.rf ls hl
