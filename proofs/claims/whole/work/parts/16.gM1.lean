/-! TuneSearchModel.thrown()I -/
abbrev rm_X12_thrown : Room := { frames := 0, cells := 0, slots := 0, locals := 0 }
theorem in_X12_thrown_X12 : ∀ w ∈ wsX120, w ∈ wsX12_thrown := by decide +kernel
def m_X12_thrown_0    (σ : SG)  : Option (Int32 × SG) :=
  some (σ.1 0 0, σ)
set_option maxHeartbeats 4000000 in
set_option maxRecDepth 100000 in
theorem kb_X12_thrown_0 {p : Program} {l : Launch} {e : Env} {s : State} {m : MethodId} {args : Array Value} {below : List Frame} {meth : Method} {c : Code} {E : EF} (Z : ZT)    (C : cy p s m args meth c cX12_thrown (some .int) 1 RX12 wsX12_thrown E (zD Z) vwCl 24 (za Z) (tysM Z)) {res : Int32 × SG}   : ∀ (σ : SG)  , m_X12_thrown_0    σ  = some res → ∀ (H : Heap) (locs : List Loc), ws_P (zD Z) vwCl 24 (za Z) (tM Z) σ H → va_S (ws_A 24 (za Z)) s.heap H locs → ∀ (ls : Array Slot), lv_has ls 1 [(0, .ref (za Z 0))] → W p l e rm_X12_thrown s m args below meth c H locs 0 0 (MQ below (xQi E (zD Z) vwCl 24 (za Z) (tM Z) (tysM Z) res) args s 0 0 (ws_A 24 (za Z))) (F0 m 0 ls []) := by
  have C0 := C
  obtain ⟨hx, hb, hr, hlocks, hml, hown, hts, hE, hJ, hK⟩ := C0
  intro σ   h H locs hP hS ls hl
  unfold m_X12_thrown_0 at h
  refine lv_aload_n hx hb dX12_thrown_0 rfl (lv_at hl 0 rfl) ?_
  refine wr_get (C := RX12) (T := TX12) (N := 41) hx hb hts (in_X12_thrown_X12) hown hK hP (k := 0) (by decide) ((tM_0 Z) _ _ _) rfl 0 (by decide) (hts (.fieldLink RX12 87 "TuneSearchModel" "code" "I") (by decide +kernel)) (fun _ h9 => h9) rfl dX12_thrown_1 ?_
  exact xr_iret hx hb hr hlocks hE hJ hK hP hS h dX12_thrown_4
def m_X12_thrown   (σ : SG)  : Option (Int32 × SG) := m_X12_thrown_0   σ 
set_option maxHeartbeats 4000000 in
set_option maxRecDepth 100000 in
theorem k_X12_thrown (l : Launch) {E : EF} (Z : ZT)    (σ : SG)  {res : Int32 × SG} (h : m_X12_thrown   σ  = some res) : Met l yX12_thrown wsX12_thrown rm_X12_thrown (va_Pc [.ref (za Z 0)] (wx E (zD Z) vwCl 24 (za Z) (tM Z) (tysM Z) σ)) (xQi E (zD Z) vwCl 24 (za Z) (tM Z) (tysM Z) res) 0 0 (ws_A 24 (za Z)) := by
  refine Met.ofW (cc := cX12_thrown) (maxL := 1) (ret := (some .int)) (by decide) rfl ?_
  intro p e s m args below meth c s₁ B hml hv
  obtain ⟨rfl, hE, hJ, hP, hK⟩ := hv
  have hl := lv_entry ([.ref (za Z 0)]) (n := 1) (Nat.le_of_ble_eq_true rfl)
  rw [lg_entry_eq]
  generalize (lg_sl ([.ref (za Z 0)]) ++ List.replicate (1 - (lg_sl ([.ref (za Z 0)])).length) Slot.unset).toArray = ls at hl ⊢
  exact kb_X12_thrown_0 Z    ⟨B.exec, B.bytes, B.returns, B.notSynchronized, hml, findClass_of_methodNamed B.named, atoms_spec (ws := wsX12_thrown) B.pre, hE, hJ, hK⟩ σ  h s.heap [] hP va_S.rf ls hl
/-! TuneSearchModel.tune()I -/
abbrev rm_X12_tune : Room := { frames := 0, cells := 0, slots := 0, locals := 0 }
theorem in_X12_tune_X12 : ∀ w ∈ wsX120, w ∈ wsX12_tune := by decide +kernel
def m_X12_tune_0    (σ : SG)  : Option (Int32 × SG) :=
  lS (sI σ 0 0 0) (fun σ1 => if ¬ (σ1.1 0 4) = 8 then (gB (inB (σ1.1 0 4) 9) (lS (sI σ1 3 (σ1.1 0 4).toNatClampNeg 0) (fun σ5 => lS (sI σ5 0 4 ((σ5.1 0 4) + 1)) (fun σ7 => some ((σ7.1 0 4) - 1, σ7))))) else (some ((-3), σ1)))
set_option maxHeartbeats 4000000 in
set_option maxRecDepth 100000 in
theorem kb_X12_tune_0 {p : Program} {l : Launch} {e : Env} {s : State} {m : MethodId} {args : Array Value} {below : List Frame} {meth : Method} {c : Code} {E : EF} (Z : ZT)    (C : cy p s m args meth c cX12_tune (some .int) 1 RX12 wsX12_tune E (zD Z) vwCl 24 (za Z) (tysM Z)) {res : Int32 × SG}   : ∀ (σ : SG)  , m_X12_tune_0    σ  = some res → ∀ (H : Heap) (locs : List Loc), ws_P (zD Z) vwCl 24 (za Z) (tM Z) σ H → va_S (ws_A 24 (za Z)) s.heap H locs → ∀ (ls : Array Slot), lv_has ls 1 [(0, .ref (za Z 0))] → W p l e rm_X12_tune s m args below meth c H locs 0 0 (MQ below (xQi E (zD Z) vwCl 24 (za Z) (tM Z) (tysM Z) res) args s 0 0 (ws_A 24 (za Z))) (F0 m 0 ls []) := by
  have C0 := C
  obtain ⟨hx, hb, hr, hlocks, hml, hown, hts, hE, hJ, hK⟩ := C0
  intro σ   h H locs hP hS ls hl
  unfold m_X12_tune_0 at h
  refine lv_aload_n hx hb dX12_tune_0 rfl (lv_at hl 0 rfl) ?_
  refine lv_iconst (v := 0) hx hb dX12_tune_1 (by decide) ?_
  refine wr_put (C := RX12) (T := TX12) (N := 41) (σ' := sI σ 0 0 0) (ty := .int) hx hb hts (in_X12_tune_X12) tyX12 tyX12_ok nmX12 hown hK hP hJ hS (k := 0) (by decide) ((tM_0 Z) _ _ _) rfl 0 (by decide) (hts (.fieldLink RX12 87 "TuneSearchModel" "code" "I") (by decide +kernel)) (fun _ h9 => h9) rfl (by decide +kernel) rfl rfl (Nat.le_of_ble_eq_true rfl) (ws_pI (tM_0 Z) rfl) dX12_tune_2 (fun H locs hP hS => ?_)
  obtain ⟨σ1, e2, h⟩ := lS_e h
  rw [← e2] at hP
  refine lv_aload_n hx hb dX12_tune_5 rfl (lv_at hl 0 rfl) ?_
  refine wr_get (C := RX12) (T := TX12) (N := 41) hx hb hts (in_X12_tune_X12) hown hK hP (k := 0) (by decide) ((tM_0 Z) _ _ _) rfl 4 (by decide) (hts (.fieldLink RX12 90 "TuneSearchModel" "tunes" "I") (by decide +kernel)) (fun _ h9 => h9) rfl dX12_tune_6 ?_
  refine lv_bipush (v := 8) hx hb dX12_tune_9 (by decide) ?_
  refine lv_icmp_ne (tgt := 17) hx hb dX12_tune_11 (by decide) (fun q3 => ?_) (fun q3 => ?_)
  · have h := if_p h q3
    refine lv_aload_n hx hb dX12_tune_17 rfl (lv_at hl 0 rfl) ?_
    refine wr_get (C := RX12) (T := TX12) (N := 41) hx hb hts (in_X12_tune_X12) hown hK hP (k := 0) (by decide) ((tM_0 Z) _ _ _) rfl 3 (by decide) (hts (.fieldLink RX12 18 "TuneSearchModel" "size" "[I") (by decide +kernel)) (fun _ h9 => h9) rfl dX12_tune_18 ?_
    refine lv_aload_n hx hb dX12_tune_21 rfl (lv_at hl 0 rfl) ?_
    refine wr_get (C := RX12) (T := TX12) (N := 41) hx hb hts (in_X12_tune_X12) hown hK hP (k := 0) (by decide) ((tM_0 Z) _ _ _) rfl 4 (by decide) (hts (.fieldLink RX12 90 "TuneSearchModel" "tunes" "I") (by decide +kernel)) (fun _ h9 => h9) rfl dX12_tune_22 ?_
    refine lv_iconst (v := 0) hx hb dX12_tune_25 (by decide) ?_
    obtain ⟨b4, h⟩ := gB_e h
    refine wr_iast hx hb hK hP hJ hS (k := 3) (by decide) 0 (tM_3 Z) rfl b4 dX12_tune_26 (fun H locs hP hS => ?_)
    obtain ⟨σ5, e6, h⟩ := lS_e h
    rw [← e6] at hP
    refine lv_aload_n hx hb dX12_tune_27 rfl (lv_at hl 0 rfl) ?_
    refine lv_dup hx hb dX12_tune_28 rfl ?_
    refine wr_get (C := RX12) (T := TX12) (N := 41) hx hb hts (in_X12_tune_X12) hown hK hP (k := 0) (by decide) ((tM_0 Z) _ _ _) rfl 4 (by decide) (hts (.fieldLink RX12 90 "TuneSearchModel" "tunes" "I") (by decide +kernel)) (fun _ h9 => h9) rfl dX12_tune_29 ?_
    refine lv_iconst (v := 1) hx hb dX12_tune_32 (by decide) ?_
    refine lv_iadd hx hb dX12_tune_33 ?_
    refine wr_put (C := RX12) (T := TX12) (N := 41) (σ' := sI σ5 0 4 ((σ5.1 0 4) + 1)) (ty := .int) hx hb hts (in_X12_tune_X12) tyX12 tyX12_ok nmX12 hown hK hP hJ hS (k := 0) (by decide) ((tM_0 Z) _ _ _) rfl 4 (by decide) (hts (.fieldLink RX12 90 "TuneSearchModel" "tunes" "I") (by decide +kernel)) (fun _ h9 => h9) rfl (by decide +kernel) rfl rfl (Nat.le_of_ble_eq_true rfl) (ws_pI (tM_0 Z) rfl) dX12_tune_34 (fun H locs hP hS => ?_)
    obtain ⟨σ7, e8, h⟩ := lS_e h
    rw [← e8] at hP
    refine lv_aload_n hx hb dX12_tune_37 rfl (lv_at hl 0 rfl) ?_
    refine wr_get (C := RX12) (T := TX12) (N := 41) hx hb hts (in_X12_tune_X12) hown hK hP (k := 0) (by decide) ((tM_0 Z) _ _ _) rfl 4 (by decide) (hts (.fieldLink RX12 90 "TuneSearchModel" "tunes" "I") (by decide +kernel)) (fun _ h9 => h9) rfl dX12_tune_38 ?_
    refine lv_iconst (v := 1) hx hb dX12_tune_41 (by decide) ?_
    refine lv_isub hx hb dX12_tune_42 ?_
    exact xr_iret hx hb hr hlocks hE hJ hK hP hS h dX12_tune_43
  · have h := if_n h (fun z => z q3)
    refine lv_bipush (v := (-3)) hx hb dX12_tune_14 (by decide) ?_
    exact xr_iret hx hb hr hlocks hE hJ hK hP hS h dX12_tune_16
def m_X12_tune   (σ : SG)  : Option (Int32 × SG) := m_X12_tune_0   σ 
set_option maxHeartbeats 4000000 in
set_option maxRecDepth 100000 in
theorem k_X12_tune (l : Launch) {E : EF} (Z : ZT)    (σ : SG)  {res : Int32 × SG} (h : m_X12_tune   σ  = some res) : Met l yX12_tune wsX12_tune rm_X12_tune (va_Pc [.ref (za Z 0)] (wx E (zD Z) vwCl 24 (za Z) (tM Z) (tysM Z) σ)) (xQi E (zD Z) vwCl 24 (za Z) (tM Z) (tysM Z) res) 0 0 (ws_A 24 (za Z)) := by
  refine Met.ofW (cc := cX12_tune) (maxL := 1) (ret := (some .int)) (by decide) rfl ?_
  intro p e s m args below meth c s₁ B hml hv
  obtain ⟨rfl, hE, hJ, hP, hK⟩ := hv
  have hl := lv_entry ([.ref (za Z 0)]) (n := 1) (Nat.le_of_ble_eq_true rfl)
  rw [lg_entry_eq]
  generalize (lg_sl ([.ref (za Z 0)]) ++ List.replicate (1 - (lg_sl ([.ref (za Z 0)])).length) Slot.unset).toArray = ls at hl ⊢
  exact kb_X12_tune_0 Z    ⟨B.exec, B.bytes, B.returns, B.notSynchronized, hml, findClass_of_methodNamed B.named, atoms_spec (ws := wsX12_tune) B.pre, hE, hJ, hK⟩ σ  h s.heap [] hP va_S.rf ls hl
/-! TuneSearchModel.add(IIII)I -/
abbrev rm_X12_add : Room := { frames := 0, cells := 0, slots := 0, locals := 0 }
theorem in_X12_add_X12 : ∀ w ∈ wsX120, w ∈ wsX12_add := by decide +kernel
def m_X12_add_0    (σ : SG) (p0 : Int32) (p1 : Int32) (p2 : Int32) (p3 : Int32) : Option (Int32 × SG) :=
  if p1 < (-1) then (some ((-2), σ)) else (if 127 < p1 then (some ((-2), σ)) else (if p2 < 1 then (some ((-2), σ)) else (if p2 ≤ 64 then (gB (inB p0 9) (if ¬ (σ.1 3 p0.toNatClampNeg) = p3 then (gB (inB p0 9) (gB (inB ((24 * p0) + (σ.1 3 p0.toNatClampNeg)) 216) (lS (sI σ 1 ((24 * p0) + (σ.1 3 p0.toNatClampNeg)).toNatClampNeg p1) (fun σ9 => gB (inB p0 9) (gB (inB ((24 * p0) + (σ9.1 3 p0.toNatClampNeg)) 216) (lS (sI σ9 2 ((24 * p0) + (σ9.1 3 p0.toNatClampNeg)).toNatClampNeg p2) (fun σ13 => gB (inB p0 9) (gB (inB p0 9) (lS (sI σ13 3 p0.toNatClampNeg ((σ13.1 3 p0.toNatClampNeg) + 1)) (fun σ17 => gB (inB p0 9) (some (σ17.1 3 p0.toNatClampNeg, σ17)))))))))))) else (some ((-3), σ)))) else (some ((-2), σ)))))
set_option maxHeartbeats 4000000 in
set_option maxRecDepth 100000 in
theorem kb_X12_add_0 {p : Program} {l : Launch} {e : Env} {s : State} {m : MethodId} {args : Array Value} {below : List Frame} {meth : Method} {c : Code} {E : EF} (Z : ZT)    (C : cy p s m args meth c cX12_add (some .int) 5 RX12 wsX12_add E (zD Z) vwCl 24 (za Z) (tysM Z)) {res : Int32 × SG}   : ∀ (σ : SG) (p0 : Int32) (p1 : Int32) (p2 : Int32) (p3 : Int32) , m_X12_add_0    σ p0 p1 p2 p3 = some res → ∀ (H : Heap) (locs : List Loc), ws_P (zD Z) vwCl 24 (za Z) (tM Z) σ H → va_S (ws_A 24 (za Z)) s.heap H locs → ∀ (ls : Array Slot), lv_has ls 5 [(0, .ref (za Z 0)), (1, .int p0), (2, .int p1), (3, .int p2), (4, .int p3)] → W p l e rm_X12_add s m args below meth c H locs 0 0 (MQ below (xQi E (zD Z) vwCl 24 (za Z) (tM Z) (tysM Z) res) args s 0 0 (ws_A 24 (za Z))) (F0 m 0 ls []) := by
  have C0 := C
  obtain ⟨hx, hb, hr, hlocks, hml, hown, hts, hE, hJ, hK⟩ := C0
  intro σ p0 p1 p2 p3  h H locs hP hS ls hl
  unfold m_X12_add_0 at h
  refine lv_iload_n hx hb dX12_add_0 rfl (lv_at hl 2 rfl) ?_
  refine lv_iconst (v := (-1)) hx hb dX12_add_1 (by decide) ?_
  refine lv_icmp_lt (tgt := 22) hx hb dX12_add_2 (by decide) (fun q1 => ?_) (fun q1 => ?_)
  · have h := if_p h q1
    refine lv_bipush (v := (-2)) hx hb dX12_add_22 (by decide) ?_
    exact xr_iret hx hb hr hlocks hE hJ hK hP hS h dX12_add_24
  · have h := if_n h q1
    refine lv_iload_n hx hb dX12_add_5 rfl (lv_at hl 2 rfl) ?_
    refine lv_bipush (v := 127) hx hb dX12_add_6 (by decide) ?_
    refine lv_icmp_gt (tgt := 22) hx hb dX12_add_8 (by decide) (fun q2 => ?_) (fun q2 => ?_)
    · have h := if_p h q2
      refine lv_bipush (v := (-2)) hx hb dX12_add_22 (by decide) ?_
      exact xr_iret hx hb hr hlocks hE hJ hK hP hS h dX12_add_24
    · have h := if_n h q2
      refine lv_iload_n hx hb dX12_add_11 rfl (lv_at hl 3 rfl) ?_
      refine lv_iconst (v := 1) hx hb dX12_add_12 (by decide) ?_
      refine lv_icmp_lt (tgt := 22) hx hb dX12_add_13 (by decide) (fun q3 => ?_) (fun q3 => ?_)
      · have h := if_p h q3
        refine lv_bipush (v := (-2)) hx hb dX12_add_22 (by decide) ?_
        exact xr_iret hx hb hr hlocks hE hJ hK hP hS h dX12_add_24
      · have h := if_n h q3
        refine lv_iload_n hx hb dX12_add_16 rfl (lv_at hl 3 rfl) ?_
        refine lv_bipush (v := 64) hx hb dX12_add_17 (by decide) ?_
        refine lv_icmp_le (tgt := 25) hx hb dX12_add_19 (by decide) (fun q4 => ?_) (fun q4 => ?_)
        · have h := if_p h q4
          refine lv_aload_n hx hb dX12_add_25 rfl (lv_at hl 0 rfl) ?_
          refine wr_get (C := RX12) (T := TX12) (N := 41) hx hb hts (in_X12_add_X12) hown hK hP (k := 0) (by decide) ((tM_0 Z) _ _ _) rfl 3 (by decide) (hts (.fieldLink RX12 18 "TuneSearchModel" "size" "[I") (by decide +kernel)) (fun _ h9 => h9) rfl dX12_add_26 ?_
          refine lv_iload_n hx hb dX12_add_29 rfl (lv_at hl 1 rfl) ?_
          obtain ⟨b5, h⟩ := gB_e h
          refine wr_iald hx hb hK hP (k := 3) (by decide) 0 ((tM_3 Z) _ _ _) rfl b5 dX12_add_30 ?_
          refine lv_iload hx hb dX12_add_31 (lv_at hl 4 rfl) ?_
          refine lv_icmp_ne (tgt := 39) hx hb dX12_add_33 (by decide) (fun q6 => ?_) (fun q6 => ?_)
          · have h := if_p h q6
            refine lv_aload_n hx hb dX12_add_39 rfl (lv_at hl 0 rfl) ?_
            refine wr_get (C := RX12) (T := TX12) (N := 41) hx hb hts (in_X12_add_X12) hown hK hP (k := 0) (by decide) ((tM_0 Z) _ _ _) rfl 1 (by decide) (hts (.fieldLink RX12 11 "TuneSearchModel" "pitch" "[I") (by decide +kernel)) (fun _ h9 => h9) rfl dX12_add_40 ?_
            refine lv_bipush (v := 24) hx hb dX12_add_43 (by decide) ?_
            refine lv_iload_n hx hb dX12_add_45 rfl (lv_at hl 1 rfl) ?_
            refine lv_imul hx hb dX12_add_46 ?_
            refine lv_aload_n hx hb dX12_add_47 rfl (lv_at hl 0 rfl) ?_
            refine wr_get (C := RX12) (T := TX12) (N := 41) hx hb hts (in_X12_add_X12) hown hK hP (k := 0) (by decide) ((tM_0 Z) _ _ _) rfl 3 (by decide) (hts (.fieldLink RX12 18 "TuneSearchModel" "size" "[I") (by decide +kernel)) (fun _ h9 => h9) rfl dX12_add_48 ?_
            refine lv_iload_n hx hb dX12_add_51 rfl (lv_at hl 1 rfl) ?_
            obtain ⟨b7, h⟩ := gB_e h
            refine wr_iald hx hb hK hP (k := 3) (by decide) 0 ((tM_3 Z) _ _ _) rfl b7 dX12_add_52 ?_
            refine lv_iadd hx hb dX12_add_53 ?_
            refine lv_iload_n hx hb dX12_add_54 rfl (lv_at hl 2 rfl) ?_
            obtain ⟨b8, h⟩ := gB_e h
            refine wr_iast hx hb hK hP hJ hS (k := 1) (by decide) 0 (tM_1 Z) rfl b8 dX12_add_55 (fun H locs hP hS => ?_)
            obtain ⟨σ9, e10, h⟩ := lS_e h
            rw [← e10] at hP
            refine lv_aload_n hx hb dX12_add_56 rfl (lv_at hl 0 rfl) ?_
            refine wr_get (C := RX12) (T := TX12) (N := 41) hx hb hts (in_X12_add_X12) hown hK hP (k := 0) (by decide) ((tM_0 Z) _ _ _) rfl 2 (by decide) (hts (.fieldLink RX12 15 "TuneSearchModel" "length" "[I") (by decide +kernel)) (fun _ h9 => h9) rfl dX12_add_57 ?_
            refine lv_bipush (v := 24) hx hb dX12_add_60 (by decide) ?_
            refine lv_iload_n hx hb dX12_add_62 rfl (lv_at hl 1 rfl) ?_
            refine lv_imul hx hb dX12_add_63 ?_
            refine lv_aload_n hx hb dX12_add_64 rfl (lv_at hl 0 rfl) ?_
            refine wr_get (C := RX12) (T := TX12) (N := 41) hx hb hts (in_X12_add_X12) hown hK hP (k := 0) (by decide) ((tM_0 Z) _ _ _) rfl 3 (by decide) (hts (.fieldLink RX12 18 "TuneSearchModel" "size" "[I") (by decide +kernel)) (fun _ h9 => h9) rfl dX12_add_65 ?_
            refine lv_iload_n hx hb dX12_add_68 rfl (lv_at hl 1 rfl) ?_
            obtain ⟨b11, h⟩ := gB_e h
            refine wr_iald hx hb hK hP (k := 3) (by decide) 0 ((tM_3 Z) _ _ _) rfl b11 dX12_add_69 ?_
            refine lv_iadd hx hb dX12_add_70 ?_
            refine lv_iload_n hx hb dX12_add_71 rfl (lv_at hl 3 rfl) ?_
            obtain ⟨b12, h⟩ := gB_e h
            refine wr_iast hx hb hK hP hJ hS (k := 2) (by decide) 0 (tM_2 Z) rfl b12 dX12_add_72 (fun H locs hP hS => ?_)
            obtain ⟨σ13, e14, h⟩ := lS_e h
            rw [← e14] at hP
            refine lv_aload_n hx hb dX12_add_73 rfl (lv_at hl 0 rfl) ?_
            refine wr_get (C := RX12) (T := TX12) (N := 41) hx hb hts (in_X12_add_X12) hown hK hP (k := 0) (by decide) ((tM_0 Z) _ _ _) rfl 3 (by decide) (hts (.fieldLink RX12 18 "TuneSearchModel" "size" "[I") (by decide +kernel)) (fun _ h9 => h9) rfl dX12_add_74 ?_
            refine lv_iload_n hx hb dX12_add_77 rfl (lv_at hl 1 rfl) ?_
            refine lv_dup2_11 hx hb dX12_add_78 rfl rfl ?_
            obtain ⟨b15, h⟩ := gB_e h
            refine wr_iald hx hb hK hP (k := 3) (by decide) 0 ((tM_3 Z) _ _ _) rfl b15 dX12_add_79 ?_
            refine lv_iconst (v := 1) hx hb dX12_add_80 (by decide) ?_
            refine lv_iadd hx hb dX12_add_81 ?_
            obtain ⟨b16, h⟩ := gB_e h
            refine wr_iast hx hb hK hP hJ hS (k := 3) (by decide) 0 (tM_3 Z) rfl b16 dX12_add_82 (fun H locs hP hS => ?_)
            obtain ⟨σ17, e18, h⟩ := lS_e h
            rw [← e18] at hP
            refine lv_aload_n hx hb dX12_add_83 rfl (lv_at hl 0 rfl) ?_
            refine wr_get (C := RX12) (T := TX12) (N := 41) hx hb hts (in_X12_add_X12) hown hK hP (k := 0) (by decide) ((tM_0 Z) _ _ _) rfl 3 (by decide) (hts (.fieldLink RX12 18 "TuneSearchModel" "size" "[I") (by decide +kernel)) (fun _ h9 => h9) rfl dX12_add_84 ?_
            refine lv_iload_n hx hb dX12_add_87 rfl (lv_at hl 1 rfl) ?_
            obtain ⟨b19, h⟩ := gB_e h
            refine wr_iald hx hb hK hP (k := 3) (by decide) 0 ((tM_3 Z) _ _ _) rfl b19 dX12_add_88 ?_
            exact xr_iret hx hb hr hlocks hE hJ hK hP hS h dX12_add_89
          · have h := if_n h (fun z => z q6)
            refine lv_bipush (v := (-3)) hx hb dX12_add_36 (by decide) ?_
            exact xr_iret hx hb hr hlocks hE hJ hK hP hS h dX12_add_38
        · have h := if_n h q4
          refine lv_bipush (v := (-2)) hx hb dX12_add_22 (by decide) ?_
          exact xr_iret hx hb hr hlocks hE hJ hK hP hS h dX12_add_24
def m_X12_add   (σ : SG) (p0 : Int32) (p1 : Int32) (p2 : Int32) (p3 : Int32) : Option (Int32 × SG) := m_X12_add_0   σ p0 p1 p2 p3
set_option maxHeartbeats 4000000 in
set_option maxRecDepth 100000 in
theorem k_X12_add (l : Launch) {E : EF} (Z : ZT)    (σ : SG) (p0 : Int32) (p1 : Int32) (p2 : Int32) (p3 : Int32) {res : Int32 × SG} (h : m_X12_add   σ p0 p1 p2 p3 = some res) : Met l yX12_add wsX12_add rm_X12_add (va_Pc [.ref (za Z 0), .int p0, .int p1, .int p2, .int p3] (wx E (zD Z) vwCl 24 (za Z) (tM Z) (tysM Z) σ)) (xQi E (zD Z) vwCl 24 (za Z) (tM Z) (tysM Z) res) 0 0 (ws_A 24 (za Z)) := by
  refine Met.ofW (cc := cX12_add) (maxL := 5) (ret := (some .int)) (by decide) rfl ?_
  intro p e s m args below meth c s₁ B hml hv
  obtain ⟨rfl, hE, hJ, hP, hK⟩ := hv
  have hl := lv_entry ([.ref (za Z 0), .int p0, .int p1, .int p2, .int p3]) (n := 5) (Nat.le_of_ble_eq_true rfl)
  rw [lg_entry_eq]
  generalize (lg_sl ([.ref (za Z 0), .int p0, .int p1, .int p2, .int p3]) ++ List.replicate (5 - (lg_sl ([.ref (za Z 0), .int p0, .int p1, .int p2, .int p3])).length) Slot.unset).toArray = ls at hl ⊢
  exact kb_X12_add_0 Z    ⟨B.exec, B.bytes, B.returns, B.notSynchronized, hml, findClass_of_methodNamed B.named, atoms_spec (ws := wsX12_add) B.pre, hE, hJ, hK⟩ σ p0 p1 p2 p3 h s.heap [] hP va_S.rf ls hl
/-! TuneSearchModel.isTune(I)Z -/
abbrev rm_X12_isTune : Room := { frames := 0, cells := 0, slots := 0, locals := 0 }
theorem in_X12_isTune_X12 : ∀ w ∈ wsX120, w ∈ wsX12_isTune := by decide +kernel
def m_X12_isTune_0    (σ : SG) (p0 : Int32) : Option (Int32 × SG) :=
  lS (sI σ 0 0 0) (fun σ1 => if p0 < 0 then (some (0, σ1)) else (if (σ1.1 0 4) ≤ p0 then (some (0, σ1)) else (some (1, σ1))))
set_option maxHeartbeats 4000000 in
set_option maxRecDepth 100000 in
theorem kb_X12_isTune_0 {p : Program} {l : Launch} {e : Env} {s : State} {m : MethodId} {args : Array Value} {below : List Frame} {meth : Method} {c : Code} {E : EF} (Z : ZT)    (C : cy p s m args meth c cX12_isTune (some .boolean) 2 RX12 wsX12_isTune E (zD Z) vwCl 24 (za Z) (tysM Z)) {res : Int32 × SG}   : ∀ (σ : SG) (p0 : Int32) , m_X12_isTune_0    σ p0 = some res → ∀ (H : Heap) (locs : List Loc), ws_P (zD Z) vwCl 24 (za Z) (tM Z) σ H → va_S (ws_A 24 (za Z)) s.heap H locs → ∀ (ls : Array Slot), lv_has ls 2 [(0, .ref (za Z 0)), (1, .int p0)] → W p l e rm_X12_isTune s m args below meth c H locs 0 0 (MQ below (xQi E (zD Z) vwCl 24 (za Z) (tM Z) (tysM Z) res) args s 0 0 (ws_A 24 (za Z))) (F0 m 0 ls []) := by
  have C0 := C
  obtain ⟨hx, hb, hr, hlocks, hml, hown, hts, hE, hJ, hK⟩ := C0
  intro σ p0  h H locs hP hS ls hl
  unfold m_X12_isTune_0 at h
  refine lv_aload_n hx hb dX12_isTune_0 rfl (lv_at hl 0 rfl) ?_
  refine lv_iconst (v := 0) hx hb dX12_isTune_1 (by decide) ?_
  refine wr_put (C := RX12) (T := TX12) (N := 41) (σ' := sI σ 0 0 0) (ty := .int) hx hb hts (in_X12_isTune_X12) tyX12 tyX12_ok nmX12 hown hK hP hJ hS (k := 0) (by decide) ((tM_0 Z) _ _ _) rfl 0 (by decide) (hts (.fieldLink RX12 87 "TuneSearchModel" "code" "I") (by decide +kernel)) (fun _ h9 => h9) rfl (by decide +kernel) rfl rfl (Nat.le_of_ble_eq_true rfl) (ws_pI (tM_0 Z) rfl) dX12_isTune_2 (fun H locs hP hS => ?_)
  obtain ⟨σ1, e2, h⟩ := lS_e h
  rw [← e2] at hP
  refine lv_iload_n hx hb dX12_isTune_5 rfl (lv_at hl 1 rfl) ?_
  refine lv_if_lt (tgt := 21) hx hb dX12_isTune_6 (by decide) (fun q3 => ?_) (fun q3 => ?_)
  · have h := if_p h q3
    refine lv_iconst (v := 0) hx hb dX12_isTune_21 (by decide) ?_
    exact xr_zret hx hb hr hlocks hE hJ hK hP hS rfl h dX12_isTune_22
  · have h := if_n h q3
    refine lv_iload_n hx hb dX12_isTune_9 rfl (lv_at hl 1 rfl) ?_
    refine lv_aload_n hx hb dX12_isTune_10 rfl (lv_at hl 0 rfl) ?_
    refine wr_get (C := RX12) (T := TX12) (N := 41) hx hb hts (in_X12_isTune_X12) hown hK hP (k := 0) (by decide) ((tM_0 Z) _ _ _) rfl 4 (by decide) (hts (.fieldLink RX12 90 "TuneSearchModel" "tunes" "I") (by decide +kernel)) (fun _ h9 => h9) rfl dX12_isTune_11 ?_
    refine lv_icmp_ge (tgt := 21) hx hb dX12_isTune_14 (by decide) (fun q4 => ?_) (fun q4 => ?_)
    · have h := if_p h q4
      refine lv_iconst (v := 0) hx hb dX12_isTune_21 (by decide) ?_
      exact xr_zret hx hb hr hlocks hE hJ hK hP hS rfl h dX12_isTune_22
    · have h := if_n h q4
      refine lv_iconst (v := 1) hx hb dX12_isTune_17 (by decide) ?_
      refine lv_goto (tgt := 22) hx hb dX12_isTune_18 (by decide) ?_
      exact xr_zret hx hb hr hlocks hE hJ hK hP hS rfl h dX12_isTune_22
def m_X12_isTune   (σ : SG) (p0 : Int32) : Option (Int32 × SG) := m_X12_isTune_0   σ p0
set_option maxHeartbeats 4000000 in
set_option maxRecDepth 100000 in
theorem k_X12_isTune (l : Launch) {E : EF} (Z : ZT)    (σ : SG) (p0 : Int32) {res : Int32 × SG} (h : m_X12_isTune   σ p0 = some res) : Met l yX12_isTune wsX12_isTune rm_X12_isTune (va_Pc [.ref (za Z 0), .int p0] (wx E (zD Z) vwCl 24 (za Z) (tM Z) (tysM Z) σ)) (xQi E (zD Z) vwCl 24 (za Z) (tM Z) (tysM Z) res) 0 0 (ws_A 24 (za Z)) := by
  refine Met.ofW (cc := cX12_isTune) (maxL := 2) (ret := (some .boolean)) (by decide) rfl ?_
  intro p e s m args below meth c s₁ B hml hv
  obtain ⟨rfl, hE, hJ, hP, hK⟩ := hv
  have hl := lv_entry ([.ref (za Z 0), .int p0]) (n := 2) (Nat.le_of_ble_eq_true rfl)
  rw [lg_entry_eq]
  generalize (lg_sl ([.ref (za Z 0), .int p0]) ++ List.replicate (2 - (lg_sl ([.ref (za Z 0), .int p0])).length) Slot.unset).toArray = ls at hl ⊢
  exact kb_X12_isTune_0 Z    ⟨B.exec, B.bytes, B.returns, B.notSynchronized, hml, findClass_of_methodNamed B.named, atoms_spec (ws := wsX12_isTune) B.pre, hE, hJ, hK⟩ σ p0 h s.heap [] hP va_S.rf ls hl
/-! TuneSearchModel.note(III)I -/
abbrev rm_X12_note : Room := { frames := 1, cells := 0, slots := 0, locals := 24 }
def m_X12_note_0    (σ : SG) (p0 : Int32) (p1 : Int32) (p2 : Int32) : Option (Int32 × SG) :=
  bi (m_X12_isTune  σ p0) (fun v1 σ2 => if v1 = 0 then (some ((-1), σ2)) else (bi (m_X12_add  σ2 p0 p1 p2 24) (fun v5 σ6 => some (v5, σ6))))
set_option maxHeartbeats 4000000 in
set_option maxRecDepth 100000 in
theorem kb_X12_note_0 {p : Program} {l : Launch} {e : Env} {s : State} {m : MethodId} {args : Array Value} {below : List Frame} {meth : Method} {c : Code} {E : EF} (Z : ZT)    (C : cy p s m args meth c cX12_note (some .int) 4 RX12 wsX12_note E (zD Z) vwCl 24 (za Z) (tysM Z)) {res : Int32 × SG}   : ∀ (σ : SG) (p0 : Int32) (p1 : Int32) (p2 : Int32) , m_X12_note_0    σ p0 p1 p2 = some res → ∀ (H : Heap) (locs : List Loc), ws_P (zD Z) vwCl 24 (za Z) (tM Z) σ H → va_S (ws_A 24 (za Z)) s.heap H locs → ∀ (ls : Array Slot), lv_has ls 4 [(0, .ref (za Z 0)), (1, .int p0), (2, .int p1), (3, .int p2)] → W p l e rm_X12_note s m args below meth c H locs 0 0 (MQ below (xQi E (zD Z) vwCl 24 (za Z) (tM Z) (tysM Z) res) args s 0 0 (ws_A 24 (za Z))) (F0 m 0 ls []) := by
  have C0 := C
  obtain ⟨hx, hb, hr, hlocks, hml, hown, hts, hE, hJ, hK⟩ := C0
  intro σ p0 p1 p2  h H locs hP hS ls hl
  unfold m_X12_note_0 at h
  refine lv_aload_n hx hb dX12_note_0 rfl (lv_at hl 0 rfl) ?_
  refine lv_iload_n hx hb dX12_note_1 rfl (lv_at hl 1 rfl) ?_
  obtain ⟨v1, σ2, hm3, h⟩ := bi_e h
  refine xr_calli (res := (v1, σ2)) (va_runV (As := [.int p0]) (rest := []) ⟨hx, hb, hml, hown, hts⟩ (k_X12_isTune l Z   σ p0 hm3) (cwV 1 hts gX12_note_X12_isTune rfl rfl rfl (by decide +kernel) ⟨Nat.le_of_ble_eq_true rfl, Nat.le_of_ble_eq_true rfl⟩) ⟨wx_blind, wr_recv hK hP (k := 0) (by decide) ((tM_0 Z) _ _ _) rfl, fun U hU hW => ⟨rfl, wx_at hE hJ hP hK hS hU hW⟩⟩ rfl rfl hl.1 rfl (lv_room (Nat.le_of_ble_eq_true rfl)) dX12_note_2 ⟨Nat.le_of_ble_eq_true rfl, Nat.le_of_ble_eq_true rfl⟩) hS (fun H locs hP hS => ?_)
  have hP : ws_P (zD Z) vwCl 24 (za Z) (tM Z) σ2 H := hP
  refine lv_if_eq (tgt := 20) hx hb dX12_note_5 (by decide) (fun q4 => ?_) (fun q4 => ?_)
  · have h := if_p h q4
    refine lv_iconst (v := (-1)) hx hb dX12_note_20 (by decide) ?_
    exact xr_iret hx hb hr hlocks hE hJ hK hP hS h dX12_note_21
  · have h := if_n h q4
    refine lv_aload_n hx hb dX12_note_8 rfl (lv_at hl 0 rfl) ?_
    refine lv_iload_n hx hb dX12_note_9 rfl (lv_at hl 1 rfl) ?_
    refine lv_iload_n hx hb dX12_note_10 rfl (lv_at hl 2 rfl) ?_
    refine lv_iload_n hx hb dX12_note_11 rfl (lv_at hl 3 rfl) ?_
    refine lv_bipush (v := 24) hx hb dX12_note_12 (by decide) ?_
    obtain ⟨v5, σ6, hm7, h⟩ := bi_e h
    refine xr_calli (res := (v5, σ6)) (va_runV (As := [.int p0, .int p1, .int p2, .int 24]) (rest := []) ⟨hx, hb, hml, hown, hts⟩ (k_X12_add l Z   σ2 p0 p1 p2 24 hm7) (cwV 4 hts gX12_note_X12_add rfl rfl rfl (by decide +kernel) ⟨Nat.le_of_ble_eq_true rfl, Nat.le_of_ble_eq_true rfl⟩) ⟨wx_blind, wr_recv hK hP (k := 0) (by decide) ((tM_0 Z) _ _ _) rfl, fun U hU hW => ⟨rfl, wx_at hE hJ hP hK hS hU hW⟩⟩ rfl rfl hl.1 rfl (lv_room (Nat.le_of_ble_eq_true rfl)) dX12_note_14 ⟨Nat.le_of_ble_eq_true rfl, Nat.le_of_ble_eq_true rfl⟩) hS (fun H locs hP hS => ?_)
    have hP : ws_P (zD Z) vwCl 24 (za Z) (tM Z) σ6 H := hP
    refine lv_goto (tgt := 21) hx hb dX12_note_17 (by decide) ?_
    exact xr_iret hx hb hr hlocks hE hJ hK hP hS h dX12_note_21
def m_X12_note   (σ : SG) (p0 : Int32) (p1 : Int32) (p2 : Int32) : Option (Int32 × SG) := m_X12_note_0   σ p0 p1 p2
set_option maxHeartbeats 4000000 in
set_option maxRecDepth 100000 in
theorem k_X12_note (l : Launch) {E : EF} (Z : ZT)    (σ : SG) (p0 : Int32) (p1 : Int32) (p2 : Int32) {res : Int32 × SG} (h : m_X12_note   σ p0 p1 p2 = some res) : Met l yX12_note wsX12_note rm_X12_note (va_Pc [.ref (za Z 0), .int p0, .int p1, .int p2] (wx E (zD Z) vwCl 24 (za Z) (tM Z) (tysM Z) σ)) (xQi E (zD Z) vwCl 24 (za Z) (tM Z) (tysM Z) res) 0 0 (ws_A 24 (za Z)) := by
  refine Met.ofW (cc := cX12_note) (maxL := 4) (ret := (some .int)) (by decide) rfl ?_
  intro p e s m args below meth c s₁ B hml hv
  obtain ⟨rfl, hE, hJ, hP, hK⟩ := hv
  have hl := lv_entry ([.ref (za Z 0), .int p0, .int p1, .int p2]) (n := 4) (Nat.le_of_ble_eq_true rfl)
  rw [lg_entry_eq]
  generalize (lg_sl ([.ref (za Z 0), .int p0, .int p1, .int p2]) ++ List.replicate (4 - (lg_sl ([.ref (za Z 0), .int p0, .int p1, .int p2])).length) Slot.unset).toArray = ls at hl ⊢
  exact kb_X12_note_0 Z    ⟨B.exec, B.bytes, B.returns, B.notSynchronized, hml, findClass_of_methodNamed B.named, atoms_spec (ws := wsX12_note) B.pre, hE, hJ, hK⟩ σ p0 p1 p2 h s.heap [] hP va_S.rf ls hl
/-! TuneSearchModel.query(II)I -/
abbrev rm_X12_query : Room := { frames := 1, cells := 0, slots := 0, locals := 24 }
theorem in_X12_query_X12 : ∀ w ∈ wsX120, w ∈ wsX12_query := by decide +kernel
def m_X12_query_0    (σ : SG) (p0 : Int32) (p1 : Int32) : Option (Int32 × SG) :=
  lS (sI σ 0 0 0) (fun σ1 => bi (m_X12_add  σ1 8 p0 p1 12) (fun v3 σ4 => some (v3, σ4)))
set_option maxHeartbeats 4000000 in
set_option maxRecDepth 100000 in
theorem kb_X12_query_0 {p : Program} {l : Launch} {e : Env} {s : State} {m : MethodId} {args : Array Value} {below : List Frame} {meth : Method} {c : Code} {E : EF} (Z : ZT)    (C : cy p s m args meth c cX12_query (some .int) 3 RX12 wsX12_query E (zD Z) vwCl 24 (za Z) (tysM Z)) {res : Int32 × SG}   : ∀ (σ : SG) (p0 : Int32) (p1 : Int32) , m_X12_query_0    σ p0 p1 = some res → ∀ (H : Heap) (locs : List Loc), ws_P (zD Z) vwCl 24 (za Z) (tM Z) σ H → va_S (ws_A 24 (za Z)) s.heap H locs → ∀ (ls : Array Slot), lv_has ls 3 [(0, .ref (za Z 0)), (1, .int p0), (2, .int p1)] → W p l e rm_X12_query s m args below meth c H locs 0 0 (MQ below (xQi E (zD Z) vwCl 24 (za Z) (tM Z) (tysM Z) res) args s 0 0 (ws_A 24 (za Z))) (F0 m 0 ls []) := by
  have C0 := C
  obtain ⟨hx, hb, hr, hlocks, hml, hown, hts, hE, hJ, hK⟩ := C0
  intro σ p0 p1  h H locs hP hS ls hl
  unfold m_X12_query_0 at h
  refine lv_aload_n hx hb dX12_query_0 rfl (lv_at hl 0 rfl) ?_
  refine lv_iconst (v := 0) hx hb dX12_query_1 (by decide) ?_
  refine wr_put (C := RX12) (T := TX12) (N := 41) (σ' := sI σ 0 0 0) (ty := .int) hx hb hts (in_X12_query_X12) tyX12 tyX12_ok nmX12 hown hK hP hJ hS (k := 0) (by decide) ((tM_0 Z) _ _ _) rfl 0 (by decide) (hts (.fieldLink RX12 87 "TuneSearchModel" "code" "I") (by decide +kernel)) (fun _ h9 => h9) rfl (by decide +kernel) rfl rfl (Nat.le_of_ble_eq_true rfl) (ws_pI (tM_0 Z) rfl) dX12_query_2 (fun H locs hP hS => ?_)
  obtain ⟨σ1, e2, h⟩ := lS_e h
  rw [← e2] at hP
  refine lv_aload_n hx hb dX12_query_5 rfl (lv_at hl 0 rfl) ?_
  refine lv_bipush (v := 8) hx hb dX12_query_6 (by decide) ?_
  refine lv_iload_n hx hb dX12_query_8 rfl (lv_at hl 1 rfl) ?_
  refine lv_iload_n hx hb dX12_query_9 rfl (lv_at hl 2 rfl) ?_
  refine lv_bipush (v := 12) hx hb dX12_query_10 (by decide) ?_
  obtain ⟨v3, σ4, hm5, h⟩ := bi_e h
  refine xr_calli (res := (v3, σ4)) (va_runV (As := [.int 8, .int p0, .int p1, .int 12]) (rest := []) ⟨hx, hb, hml, hown, hts⟩ (k_X12_add l Z   σ1 8 p0 p1 12 hm5) (cwV 4 hts gX12_query_X12_add rfl rfl rfl (by decide +kernel) ⟨Nat.le_of_ble_eq_true rfl, Nat.le_of_ble_eq_true rfl⟩) ⟨wx_blind, wr_recv hK hP (k := 0) (by decide) ((tM_0 Z) _ _ _) rfl, fun U hU hW => ⟨rfl, wx_at hE hJ hP hK hS hU hW⟩⟩ rfl rfl hl.1 rfl (lv_room (Nat.le_of_ble_eq_true rfl)) dX12_query_12 ⟨Nat.le_of_ble_eq_true rfl, Nat.le_of_ble_eq_true rfl⟩) hS (fun H locs hP hS => ?_)
  have hP : ws_P (zD Z) vwCl 24 (za Z) (tM Z) σ4 H := hP
  exact xr_iret hx hb hr hlocks hE hJ hK hP hS h dX12_query_15
def m_X12_query   (σ : SG) (p0 : Int32) (p1 : Int32) : Option (Int32 × SG) := m_X12_query_0   σ p0 p1
set_option maxHeartbeats 4000000 in
set_option maxRecDepth 100000 in
theorem k_X12_query (l : Launch) {E : EF} (Z : ZT)    (σ : SG) (p0 : Int32) (p1 : Int32) {res : Int32 × SG} (h : m_X12_query   σ p0 p1 = some res) : Met l yX12_query wsX12_query rm_X12_query (va_Pc [.ref (za Z 0), .int p0, .int p1] (wx E (zD Z) vwCl 24 (za Z) (tM Z) (tysM Z) σ)) (xQi E (zD Z) vwCl 24 (za Z) (tM Z) (tysM Z) res) 0 0 (ws_A 24 (za Z)) := by
  refine Met.ofW (cc := cX12_query) (maxL := 3) (ret := (some .int)) (by decide) rfl ?_
  intro p e s m args below meth c s₁ B hml hv
  obtain ⟨rfl, hE, hJ, hP, hK⟩ := hv
  have hl := lv_entry ([.ref (za Z 0), .int p0, .int p1]) (n := 3) (Nat.le_of_ble_eq_true rfl)
  rw [lg_entry_eq]
  generalize (lg_sl ([.ref (za Z 0), .int p0, .int p1]) ++ List.replicate (3 - (lg_sl ([.ref (za Z 0), .int p0, .int p1])).length) Slot.unset).toArray = ls at hl ⊢
  exact kb_X12_query_0 Z    ⟨B.exec, B.bytes, B.returns, B.notSynchronized, hml, findClass_of_methodNamed B.named, atoms_spec (ws := wsX12_query) B.pre, hE, hJ, hK⟩ σ p0 p1 h s.heap [] hP va_S.rf ls hl
/-! TuneSearchModel.forget()I -/
abbrev rm_X12_forget : Room := { frames := 0, cells := 0, slots := 0, locals := 0 }
theorem in_X12_forget_X12 : ∀ w ∈ wsX120, w ∈ wsX12_forget := by decide +kernel
def m_X12_forget_0    (σ : SG)  : Option (Int32 × SG) :=
  lS (sI σ 0 0 0) (fun σ1 => gB (inB 8 9) (lS (σ1.1 3 (8 : Int32).toNatClampNeg) (fun v4 => gB (inB 8 9) (lS (sI σ1 3 (8 : Int32).toNatClampNeg 0) (fun σ7 => some (v4, σ7))))))
set_option maxHeartbeats 4000000 in
set_option maxRecDepth 100000 in
theorem kb_X12_forget_0 {p : Program} {l : Launch} {e : Env} {s : State} {m : MethodId} {args : Array Value} {below : List Frame} {meth : Method} {c : Code} {E : EF} (Z : ZT)    (C : cy p s m args meth c cX12_forget (some .int) 2 RX12 wsX12_forget E (zD Z) vwCl 24 (za Z) (tysM Z)) {res : Int32 × SG}   : ∀ (σ : SG)  , m_X12_forget_0    σ  = some res → ∀ (H : Heap) (locs : List Loc), ws_P (zD Z) vwCl 24 (za Z) (tM Z) σ H → va_S (ws_A 24 (za Z)) s.heap H locs → ∀ (ls : Array Slot), lv_has ls 2 [(0, .ref (za Z 0))] → W p l e rm_X12_forget s m args below meth c H locs 0 0 (MQ below (xQi E (zD Z) vwCl 24 (za Z) (tM Z) (tysM Z) res) args s 0 0 (ws_A 24 (za Z))) (F0 m 0 ls []) := by
  have C0 := C
  obtain ⟨hx, hb, hr, hlocks, hml, hown, hts, hE, hJ, hK⟩ := C0
  intro σ   h H locs hP hS ls hl
  unfold m_X12_forget_0 at h
  refine lv_aload_n hx hb dX12_forget_0 rfl (lv_at hl 0 rfl) ?_
  refine lv_iconst (v := 0) hx hb dX12_forget_1 (by decide) ?_
  refine wr_put (C := RX12) (T := TX12) (N := 41) (σ' := sI σ 0 0 0) (ty := .int) hx hb hts (in_X12_forget_X12) tyX12 tyX12_ok nmX12 hown hK hP hJ hS (k := 0) (by decide) ((tM_0 Z) _ _ _) rfl 0 (by decide) (hts (.fieldLink RX12 87 "TuneSearchModel" "code" "I") (by decide +kernel)) (fun _ h9 => h9) rfl (by decide +kernel) rfl rfl (Nat.le_of_ble_eq_true rfl) (ws_pI (tM_0 Z) rfl) dX12_forget_2 (fun H locs hP hS => ?_)
  obtain ⟨σ1, e2, h⟩ := lS_e h
  rw [← e2] at hP
  refine lv_aload_n hx hb dX12_forget_5 rfl (lv_at hl 0 rfl) ?_
  refine wr_get (C := RX12) (T := TX12) (N := 41) hx hb hts (in_X12_forget_X12) hown hK hP (k := 0) (by decide) ((tM_0 Z) _ _ _) rfl 3 (by decide) (hts (.fieldLink RX12 18 "TuneSearchModel" "size" "[I") (by decide +kernel)) (fun _ h9 => h9) rfl dX12_forget_6 ?_
  refine lv_bipush (v := 8) hx hb dX12_forget_9 (by decide) ?_
  obtain ⟨b3, h⟩ := gB_e h
  refine wr_iald hx hb hK hP (k := 3) (by decide) 0 ((tM_3 Z) _ _ _) rfl b3 dX12_forget_11 ?_
  refine lv_topi (fun v4 e5 => ?_)
  have h := lS_u h e5
  refine lv_istore_n (lv' := [(1, .int v4), (0, .ref (za Z 0))]) hx hb dX12_forget_12 rfl hl (by decide) rfl (fun ls hl => ?_)
  refine lv_aload_n hx hb dX12_forget_13 rfl (lv_at hl 1 rfl) ?_
  refine wr_get (C := RX12) (T := TX12) (N := 41) hx hb hts (in_X12_forget_X12) hown hK hP (k := 0) (by decide) ((tM_0 Z) _ _ _) rfl 3 (by decide) (hts (.fieldLink RX12 18 "TuneSearchModel" "size" "[I") (by decide +kernel)) (fun _ h9 => h9) rfl dX12_forget_14 ?_
  refine lv_bipush (v := 8) hx hb dX12_forget_17 (by decide) ?_
  refine lv_iconst (v := 0) hx hb dX12_forget_19 (by decide) ?_
  obtain ⟨b6, h⟩ := gB_e h
  refine wr_iast hx hb hK hP hJ hS (k := 3) (by decide) 0 (tM_3 Z) rfl b6 dX12_forget_20 (fun H locs hP hS => ?_)
  obtain ⟨σ7, e8, h⟩ := lS_e h
  rw [← e8] at hP
  refine lv_iload_n hx hb dX12_forget_21 rfl (lv_at hl 0 rfl) ?_
  exact xr_iret hx hb hr hlocks hE hJ hK hP hS h dX12_forget_22
def m_X12_forget   (σ : SG)  : Option (Int32 × SG) := m_X12_forget_0   σ 
set_option maxHeartbeats 4000000 in
set_option maxRecDepth 100000 in
theorem k_X12_forget (l : Launch) {E : EF} (Z : ZT)    (σ : SG)  {res : Int32 × SG} (h : m_X12_forget   σ  = some res) : Met l yX12_forget wsX12_forget rm_X12_forget (va_Pc [.ref (za Z 0)] (wx E (zD Z) vwCl 24 (za Z) (tM Z) (tysM Z) σ)) (xQi E (zD Z) vwCl 24 (za Z) (tM Z) (tysM Z) res) 0 0 (ws_A 24 (za Z)) := by
  refine Met.ofW (cc := cX12_forget) (maxL := 2) (ret := (some .int)) (by decide) rfl ?_
  intro p e s m args below meth c s₁ B hml hv
  obtain ⟨rfl, hE, hJ, hP, hK⟩ := hv
  have hl := lv_entry ([.ref (za Z 0)]) (n := 2) (Nat.le_of_ble_eq_true rfl)
  rw [lg_entry_eq]
  generalize (lg_sl ([.ref (za Z 0)]) ++ List.replicate (2 - (lg_sl ([.ref (za Z 0)])).length) Slot.unset).toArray = ls at hl ⊢
  exact kb_X12_forget_0 Z    ⟨B.exec, B.bytes, B.returns, B.notSynchronized, hml, findClass_of_methodNamed B.named, atoms_spec (ws := wsX12_forget) B.pre, hE, hJ, hK⟩ σ  h s.heap [] hP va_S.rf ls hl
/-! TuneSearchModel.price(II)I -/
abbrev rm_X12_price : Room := { frames := 0, cells := 0, slots := 0, locals := 0 }
theorem in_X12_price_X12 : ∀ w ∈ wsX120, w ∈ wsX12_price := by decide +kernel
def m_X12_price_0    (σ : SG) (p0 : Int32) (p1 : Int32) : Option (Int32 × SG) :=
  lS (sI σ 0 0 0) (fun σ1 => if p0 < 0 then (some ((-1), σ1)) else (if p0 ≤ 7 then (if p1 < 0 then (some ((-2), σ1)) else (if p1 ≤ 1000 then (gB (inB p0 8) (lS (σ1.1 4 p0.toNatClampNeg) (fun v8 => gB (inB p0 8) (lS (sI σ1 4 p0.toNatClampNeg p1) (fun σ11 => some (v8, σ11)))))) else (some ((-2), σ1)))) else (some ((-1), σ1))))
set_option maxHeartbeats 4000000 in
set_option maxRecDepth 100000 in
theorem kb_X12_price_0 {p : Program} {l : Launch} {e : Env} {s : State} {m : MethodId} {args : Array Value} {below : List Frame} {meth : Method} {c : Code} {E : EF} (Z : ZT)    (C : cy p s m args meth c cX12_price (some .int) 4 RX12 wsX12_price E (zD Z) vwCl 24 (za Z) (tysM Z)) {res : Int32 × SG}   : ∀ (σ : SG) (p0 : Int32) (p1 : Int32) , m_X12_price_0    σ p0 p1 = some res → ∀ (H : Heap) (locs : List Loc), ws_P (zD Z) vwCl 24 (za Z) (tM Z) σ H → va_S (ws_A 24 (za Z)) s.heap H locs → ∀ (ls : Array Slot), lv_has ls 4 [(0, .ref (za Z 0)), (1, .int p0), (2, .int p1)] → W p l e rm_X12_price s m args below meth c H locs 0 0 (MQ below (xQi E (zD Z) vwCl 24 (za Z) (tM Z) (tysM Z) res) args s 0 0 (ws_A 24 (za Z))) (F0 m 0 ls []) := by
  have C0 := C
  obtain ⟨hx, hb, hr, hlocks, hml, hown, hts, hE, hJ, hK⟩ := C0
  intro σ p0 p1  h H locs hP hS ls hl
  unfold m_X12_price_0 at h
  refine lv_aload_n hx hb dX12_price_0 rfl (lv_at hl 0 rfl) ?_
  refine lv_iconst (v := 0) hx hb dX12_price_1 (by decide) ?_
  refine wr_put (C := RX12) (T := TX12) (N := 41) (σ' := sI σ 0 0 0) (ty := .int) hx hb hts (in_X12_price_X12) tyX12 tyX12_ok nmX12 hown hK hP hJ hS (k := 0) (by decide) ((tM_0 Z) _ _ _) rfl 0 (by decide) (hts (.fieldLink RX12 87 "TuneSearchModel" "code" "I") (by decide +kernel)) (fun _ h9 => h9) rfl (by decide +kernel) rfl rfl (Nat.le_of_ble_eq_true rfl) (ws_pI (tM_0 Z) rfl) dX12_price_2 (fun H locs hP hS => ?_)
  obtain ⟨σ1, e2, h⟩ := lS_e h
  rw [← e2] at hP
  refine lv_iload_n hx hb dX12_price_5 rfl (lv_at hl 1 rfl) ?_
  refine lv_if_lt (tgt := 15) hx hb dX12_price_6 (by decide) (fun q3 => ?_) (fun q3 => ?_)
  · have h := if_p h q3
    refine lv_iconst (v := (-1)) hx hb dX12_price_15 (by decide) ?_
    exact xr_iret hx hb hr hlocks hE hJ hK hP hS h dX12_price_16
  · have h := if_n h q3
    refine lv_iload_n hx hb dX12_price_9 rfl (lv_at hl 1 rfl) ?_
    refine lv_bipush (v := 7) hx hb dX12_price_10 (by decide) ?_
    refine lv_icmp_le (tgt := 17) hx hb dX12_price_12 (by decide) (fun q4 => ?_) (fun q4 => ?_)
    · have h := if_p h q4
      refine lv_iload_n hx hb dX12_price_17 rfl (lv_at hl 2 rfl) ?_
      refine lv_if_lt (tgt := 28) hx hb dX12_price_18 (by decide) (fun q5 => ?_) (fun q5 => ?_)
      · have h := if_p h q5
        refine lv_bipush (v := (-2)) hx hb dX12_price_28 (by decide) ?_
        exact xr_iret hx hb hr hlocks hE hJ hK hP hS h dX12_price_30
      · have h := if_n h q5
        refine lv_iload_n hx hb dX12_price_21 rfl (lv_at hl 2 rfl) ?_
        refine lv_sipush (v := 1000) hx hb dX12_price_22 (by decide) ?_
        refine lv_icmp_le (tgt := 31) hx hb dX12_price_25 (by decide) (fun q6 => ?_) (fun q6 => ?_)
        · have h := if_p h q6
          refine lv_aload_n hx hb dX12_price_31 rfl (lv_at hl 0 rfl) ?_
          refine wr_get (C := RX12) (T := TX12) (N := 41) hx hb hts (in_X12_price_X12) hown hK hP (k := 0) (by decide) ((tM_0 Z) _ _ _) rfl 5 (by decide) (hts (.fieldLink RX12 21 "TuneSearchModel" "prices" "[I") (by decide +kernel)) (fun _ h9 => h9) rfl dX12_price_32 ?_
          refine lv_iload_n hx hb dX12_price_35 rfl (lv_at hl 1 rfl) ?_
          obtain ⟨b7, h⟩ := gB_e h
          refine wr_iald hx hb hK hP (k := 4) (by decide) 0 ((tM_4 Z) _ _ _) rfl b7 dX12_price_36 ?_
          refine lv_topi (fun v8 e9 => ?_)
          have h := lS_u h e9
          refine lv_istore_n (lv' := [(3, .int v8), (0, .ref (za Z 0)), (1, .int p0), (2, .int p1)]) hx hb dX12_price_37 rfl hl (by decide) rfl (fun ls hl => ?_)
          refine lv_aload_n hx hb dX12_price_38 rfl (lv_at hl 1 rfl) ?_
          refine wr_get (C := RX12) (T := TX12) (N := 41) hx hb hts (in_X12_price_X12) hown hK hP (k := 0) (by decide) ((tM_0 Z) _ _ _) rfl 5 (by decide) (hts (.fieldLink RX12 21 "TuneSearchModel" "prices" "[I") (by decide +kernel)) (fun _ h9 => h9) rfl dX12_price_39 ?_
          refine lv_iload_n hx hb dX12_price_42 rfl (lv_at hl 2 rfl) ?_
          refine lv_iload_n hx hb dX12_price_43 rfl (lv_at hl 3 rfl) ?_
          obtain ⟨b10, h⟩ := gB_e h
          refine wr_iast hx hb hK hP hJ hS (k := 4) (by decide) 0 (tM_4 Z) rfl b10 dX12_price_44 (fun H locs hP hS => ?_)
          obtain ⟨σ11, e12, h⟩ := lS_e h
          rw [← e12] at hP
          refine lv_iload_n hx hb dX12_price_45 rfl (lv_at hl 0 rfl) ?_
          exact xr_iret hx hb hr hlocks hE hJ hK hP hS h dX12_price_46
        · have h := if_n h q6
          refine lv_bipush (v := (-2)) hx hb dX12_price_28 (by decide) ?_
          exact xr_iret hx hb hr hlocks hE hJ hK hP hS h dX12_price_30
    · have h := if_n h q4
      refine lv_iconst (v := (-1)) hx hb dX12_price_15 (by decide) ?_
      exact xr_iret hx hb hr hlocks hE hJ hK hP hS h dX12_price_16
def m_X12_price   (σ : SG) (p0 : Int32) (p1 : Int32) : Option (Int32 × SG) := m_X12_price_0   σ p0 p1
set_option maxHeartbeats 4000000 in
set_option maxRecDepth 100000 in
theorem k_X12_price (l : Launch) {E : EF} (Z : ZT)    (σ : SG) (p0 : Int32) (p1 : Int32) {res : Int32 × SG} (h : m_X12_price   σ p0 p1 = some res) : Met l yX12_price wsX12_price rm_X12_price (va_Pc [.ref (za Z 0), .int p0, .int p1] (wx E (zD Z) vwCl 24 (za Z) (tM Z) (tysM Z) σ)) (xQi E (zD Z) vwCl 24 (za Z) (tM Z) (tysM Z) res) 0 0 (ws_A 24 (za Z)) := by
  refine Met.ofW (cc := cX12_price) (maxL := 4) (ret := (some .int)) (by decide) rfl ?_
  intro p e s m args below meth c s₁ B hml hv
  obtain ⟨rfl, hE, hJ, hP, hK⟩ := hv
  have hl := lv_entry ([.ref (za Z 0), .int p0, .int p1]) (n := 4) (Nat.le_of_ble_eq_true rfl)
  rw [lg_entry_eq]
  generalize (lg_sl ([.ref (za Z 0), .int p0, .int p1]) ++ List.replicate (4 - (lg_sl ([.ref (za Z 0), .int p0, .int p1])).length) Slot.unset).toArray = ls at hl ⊢
  exact kb_X12_price_0 Z    ⟨B.exec, B.bytes, B.returns, B.notSynchronized, hml, findClass_of_methodNamed B.named, atoms_spec (ws := wsX12_price) B.pre, hE, hJ, hK⟩ σ p0 p1 h s.heap [] hP va_S.rf ls hl
/-! TuneSearchModel.type(JI)I -/
abbrev rm_X12_type : Room := { frames := 0, cells := 0, slots := 0, locals := 0 }
theorem in_X12_type_X12 : ∀ w ∈ wsX120, w ∈ wsX12_type := by decide +kernel
def m_X12_type_39_s    (c39 : SG → Int64 → Int32 → Option (Int32 × SG)) (σ : SG) (l1 : Int64) (l4 : Int32) : Option (Int32 × SG) :=
  if l4 < 0 then (some (σ.1 0 7, σ)) else (gB (inB (σ.1 0 7) 160) (lS (sI σ 5 (σ.1 0 7).toNatClampNeg (((l1 >>> ((8 * l4).toInt64 &&& 63)).toInt32).toInt8.toInt32).toInt8.toInt32) (fun σ10 => lS (sI σ10 0 7 ((σ10.1 0 7) + 1)) (fun σ12 => lS (l4 + (-1)) (fun v14 => c39 σ12 l1 v14)))))
def m_X12_type_39    : Nat → SG → Int64 → Int32 → Option (Int32 × SG)
  | 0, _, _, _ => none
  | n + 1, σ, l1, l4 => m_X12_type_39_s    (m_X12_type_39    n) σ l1 l4
set_option maxHeartbeats 4000000 in
set_option maxRecDepth 100000 in
theorem kb_X12_type_39 {p : Program} {l : Launch} {e : Env} {s : State} {m : MethodId} {args : Array Value} {below : List Frame} {meth : Method} {c : Code} {E : EF} (Z : ZT)    (C : cy p s m args meth c cX12_type (some .int) 5 RX12 wsX12_type E (zD Z) vwCl 24 (za Z) (tysM Z)) {res : Int32 × SG}   : ∀ (n : Nat) (σ : SG) (l1 : Int64) (l4 : Int32) , m_X12_type_39    n σ l1 l4 = some res → ∀ (H : Heap) (locs : List Loc), ws_P (zD Z) vwCl 24 (za Z) (tM Z) σ H → va_S (ws_A 24 (za Z)) s.heap H locs → ∀ (ls : Array Slot), lv_has ls 5 [(0, .ref (za Z 0)), (1, .long l1), (4, .int l4)] → W p l e rm_X12_type s m args below meth c H locs 0 0 (MQ below (xQi E (zD Z) vwCl 24 (za Z) (tM Z) (tysM Z) res) args s 0 0 (ws_A 24 (za Z))) (F0 m 39 ls []) := by
  have C0 := C
  obtain ⟨hx, hb, hr, hlocks, hml, hown, hts, hE, hJ, hK⟩ := C0
  intro n
  induction n with
  | zero =>
    intro σ l1 l4  h
    cases h
  | succ n ih =>
    intro σ l1 l4  h H locs hP hS ls hl
    have hc39 : ∀ (σ : SG) (l1 : Int64) (l4 : Int32) , m_X12_type_39    n σ l1 l4 = some res → ∀ (H : Heap) (locs : List Loc), ws_P (zD Z) vwCl 24 (za Z) (tM Z) σ H → va_S (ws_A 24 (za Z)) s.heap H locs → ∀ (ls : Array Slot), lv_has ls 5 [(0, .ref (za Z 0)), (1, .long l1), (4, .int l4)] → W p l e rm_X12_type s m args below meth c H locs 0 0 (MQ below (xQi E (zD Z) vwCl 24 (za Z) (tM Z) (tysM Z) res) args s 0 0 (ws_A 24 (za Z))) (F0 m 39 ls []) := ih
    have h : m_X12_type_39_s    (m_X12_type_39    n) σ l1 l4 = some res := h
    unfold m_X12_type_39_s at h
    refine lv_iload hx hb dX12_type_39 (lv_at hl 2 rfl) ?_
    refine lv_if_lt (tgt := 78) hx hb dX12_type_41 (by decide) (fun q8 => ?_) (fun q8 => ?_)
    · have h := if_p h q8
      refine lv_aload_n hx hb dX12_type_78 rfl (lv_at hl 0 rfl) ?_
      refine wr_get (C := RX12) (T := TX12) (N := 41) hx hb hts (in_X12_type_X12) hown hK hP (k := 0) (by decide) ((tM_0 Z) _ _ _) rfl 7 (by decide) (hts (.fieldLink RX12 101 "TuneSearchModel" "taped" "I") (by decide +kernel)) (fun _ h9 => h9) rfl dX12_type_79 ?_
      exact xr_iret hx hb hr hlocks hE hJ hK hP hS h dX12_type_82
    · have h := if_n h q8
      refine lv_aload_n hx hb dX12_type_44 rfl (lv_at hl 0 rfl) ?_
      refine wr_get (C := RX12) (T := TX12) (N := 41) hx hb hts (in_X12_type_X12) hown hK hP (k := 0) (by decide) ((tM_0 Z) _ _ _) rfl 6 (by decide) (hts (.fieldLink RX12 24 "TuneSearchModel" "tape" "[B") (by decide +kernel)) (fun _ h9 => h9) rfl dX12_type_45 ?_
      refine lv_aload_n hx hb dX12_type_48 rfl (lv_at hl 0 rfl) ?_
      refine wr_get (C := RX12) (T := TX12) (N := 41) hx hb hts (in_X12_type_X12) hown hK hP (k := 0) (by decide) ((tM_0 Z) _ _ _) rfl 7 (by decide) (hts (.fieldLink RX12 101 "TuneSearchModel" "taped" "I") (by decide +kernel)) (fun _ h9 => h9) rfl dX12_type_49 ?_
      refine lv_lload_n hx hb dX12_type_52 rfl (lv_at hl 1 rfl) ?_
      refine lv_bipush (v := 8) hx hb dX12_type_53 (by decide) ?_
      refine lv_iload hx hb dX12_type_55 (lv_at hl 2 rfl) ?_
      refine lv_imul hx hb dX12_type_57 ?_
      refine lv_lshr hx hb dX12_type_58 rfl ?_
      refine lv_l2i hx hb dX12_type_59 rfl ?_
      refine lv_i2b hx hb dX12_type_60 rfl ?_
      obtain ⟨b9, h⟩ := gB_e h
      refine wr_bast hx hb hK hP hJ hS (k := 5) (by decide) 2 (tM_5 Z) rfl b9 dX12_type_61 (fun H locs hP hS => ?_)
      obtain ⟨σ10, e11, h⟩ := lS_e h
      rw [← e11] at hP
      refine lv_aload_n hx hb dX12_type_62 rfl (lv_at hl 0 rfl) ?_
      refine lv_dup hx hb dX12_type_63 rfl ?_
      refine wr_get (C := RX12) (T := TX12) (N := 41) hx hb hts (in_X12_type_X12) hown hK hP (k := 0) (by decide) ((tM_0 Z) _ _ _) rfl 7 (by decide) (hts (.fieldLink RX12 101 "TuneSearchModel" "taped" "I") (by decide +kernel)) (fun _ h9 => h9) rfl dX12_type_64 ?_
      refine lv_iconst (v := 1) hx hb dX12_type_67 (by decide) ?_
      refine lv_iadd hx hb dX12_type_68 ?_
      refine wr_put (C := RX12) (T := TX12) (N := 41) (σ' := sI σ10 0 7 ((σ10.1 0 7) + 1)) (ty := .int) hx hb hts (in_X12_type_X12) tyX12 tyX12_ok nmX12 hown hK hP hJ hS (k := 0) (by decide) ((tM_0 Z) _ _ _) rfl 7 (by decide) (hts (.fieldLink RX12 101 "TuneSearchModel" "taped" "I") (by decide +kernel)) (fun _ h9 => h9) rfl (by decide +kernel) rfl rfl (Nat.le_of_ble_eq_true rfl) (ws_pI (tM_0 Z) rfl) dX12_type_69 (fun H locs hP hS => ?_)
      obtain ⟨σ12, e13, h⟩ := lS_e h
      rw [← e13] at hP
      obtain ⟨v14, e15, h⟩ := lS_e h
      refine lv_iinc (v := v14) (lv' := [(4, .int v14), (0, .ref (za Z 0)), (1, .long l1)]) hx hb dX12_type_72 hl (k := 2) rfl (by rw [e15]; rfl) (by decide) rfl (fun ls hl => ?_)
      refine lv_goto (tgt := 39) hx hb dX12_type_75 (by decide) ?_
      exact hc39 σ12 l1 v14 h H locs hP hS ls (lv_sub hl [1, 2, 0] rfl)
def m_X12_type_0    (σ : SG) (p0 : Int64) (p1 : Int32) : Option (Int32 × SG) :=
  lS (sI σ 0 0 0) (fun σ1 => if p1 < 1 then (some ((-2), σ1)) else (if p1 ≤ 8 then (if ((σ1.1 0 7) + p1) ≤ 160 then (lS (p1 - 1) (fun v6 => m_X12_type_39    FV σ1 p0 v6)) else (some ((-3), σ1))) else (some ((-2), σ1))))
set_option maxHeartbeats 4000000 in
set_option maxRecDepth 100000 in
theorem kb_X12_type_0 {p : Program} {l : Launch} {e : Env} {s : State} {m : MethodId} {args : Array Value} {below : List Frame} {meth : Method} {c : Code} {E : EF} (Z : ZT)    (C : cy p s m args meth c cX12_type (some .int) 5 RX12 wsX12_type E (zD Z) vwCl 24 (za Z) (tysM Z)) {res : Int32 × SG}   : ∀ (σ : SG) (p0 : Int64) (p1 : Int32) , m_X12_type_0    σ p0 p1 = some res → ∀ (H : Heap) (locs : List Loc), ws_P (zD Z) vwCl 24 (za Z) (tM Z) σ H → va_S (ws_A 24 (za Z)) s.heap H locs → ∀ (ls : Array Slot), lv_has ls 5 [(0, .ref (za Z 0)), (1, .long p0), (3, .int p1)] → W p l e rm_X12_type s m args below meth c H locs 0 0 (MQ below (xQi E (zD Z) vwCl 24 (za Z) (tM Z) (tysM Z) res) args s 0 0 (ws_A 24 (za Z))) (F0 m 0 ls []) := by
  have C0 := C
  obtain ⟨hx, hb, hr, hlocks, hml, hown, hts, hE, hJ, hK⟩ := C0
  intro σ p0 p1  h H locs hP hS ls hl
  unfold m_X12_type_0 at h
  refine lv_aload_n hx hb dX12_type_0 rfl (lv_at hl 0 rfl) ?_
  refine lv_iconst (v := 0) hx hb dX12_type_1 (by decide) ?_
  refine wr_put (C := RX12) (T := TX12) (N := 41) (σ' := sI σ 0 0 0) (ty := .int) hx hb hts (in_X12_type_X12) tyX12 tyX12_ok nmX12 hown hK hP hJ hS (k := 0) (by decide) ((tM_0 Z) _ _ _) rfl 0 (by decide) (hts (.fieldLink RX12 87 "TuneSearchModel" "code" "I") (by decide +kernel)) (fun _ h9 => h9) rfl (by decide +kernel) rfl rfl (Nat.le_of_ble_eq_true rfl) (ws_pI (tM_0 Z) rfl) dX12_type_2 (fun H locs hP hS => ?_)
  obtain ⟨σ1, e2, h⟩ := lS_e h
  rw [← e2] at hP
  refine lv_iload_n hx hb dX12_type_5 rfl (lv_at hl 2 rfl) ?_
  refine lv_iconst (v := 1) hx hb dX12_type_6 (by decide) ?_
  refine lv_icmp_lt (tgt := 16) hx hb dX12_type_7 (by decide) (fun q3 => ?_) (fun q3 => ?_)
  · have h := if_p h q3
    refine lv_bipush (v := (-2)) hx hb dX12_type_16 (by decide) ?_
    exact xr_iret hx hb hr hlocks hE hJ hK hP hS h dX12_type_18
  · have h := if_n h q3
    refine lv_iload_n hx hb dX12_type_10 rfl (lv_at hl 2 rfl) ?_
    refine lv_bipush (v := 8) hx hb dX12_type_11 (by decide) ?_
    refine lv_icmp_le (tgt := 19) hx hb dX12_type_13 (by decide) (fun q4 => ?_) (fun q4 => ?_)
    · have h := if_p h q4
      refine lv_aload_n hx hb dX12_type_19 rfl (lv_at hl 0 rfl) ?_
      refine wr_get (C := RX12) (T := TX12) (N := 41) hx hb hts (in_X12_type_X12) hown hK hP (k := 0) (by decide) ((tM_0 Z) _ _ _) rfl 7 (by decide) (hts (.fieldLink RX12 101 "TuneSearchModel" "taped" "I") (by decide +kernel)) (fun _ h9 => h9) rfl dX12_type_20 ?_
      refine lv_iload_n hx hb dX12_type_23 rfl (lv_at hl 2 rfl) ?_
      refine lv_iadd hx hb dX12_type_24 ?_
      refine lv_sipush (v := 160) hx hb dX12_type_25 (by decide) ?_
      refine lv_icmp_le (tgt := 34) hx hb dX12_type_28 (by decide) (fun q5 => ?_) (fun q5 => ?_)
      · have h := if_p h q5
        refine lv_iload_n hx hb dX12_type_34 rfl (lv_at hl 2 rfl) ?_
        refine lv_iconst (v := 1) hx hb dX12_type_35 (by decide) ?_
        refine lv_isub hx hb dX12_type_36 ?_
        refine lv_topi (fun v6 e7 => ?_)
        have h := lS_u h e7
        refine lv_istore (lv' := [(4, .int v6), (0, .ref (za Z 0)), (1, .long p0), (3, .int p1)]) hx hb dX12_type_37 hl (by decide) rfl (fun ls hl => ?_)
        exact kb_X12_type_39 Z    C   FV σ1 p0 v6 h H locs hP hS ls (lv_sub hl [1, 2, 0] rfl)
      · have h := if_n h q5
        refine lv_bipush (v := (-3)) hx hb dX12_type_31 (by decide) ?_
        exact xr_iret hx hb hr hlocks hE hJ hK hP hS h dX12_type_33
    · have h := if_n h q4
      refine lv_bipush (v := (-2)) hx hb dX12_type_16 (by decide) ?_
      exact xr_iret hx hb hr hlocks hE hJ hK hP hS h dX12_type_18
def m_X12_type   (σ : SG) (p0 : Int64) (p1 : Int32) : Option (Int32 × SG) := m_X12_type_0   σ p0 p1
set_option maxHeartbeats 4000000 in
set_option maxRecDepth 100000 in
theorem k_X12_type (l : Launch) {E : EF} (Z : ZT)    (σ : SG) (p0 : Int64) (p1 : Int32) {res : Int32 × SG} (h : m_X12_type   σ p0 p1 = some res) : Met l yX12_type wsX12_type rm_X12_type (va_Pc [.ref (za Z 0), .long p0, .int p1] (wx E (zD Z) vwCl 24 (za Z) (tM Z) (tysM Z) σ)) (xQi E (zD Z) vwCl 24 (za Z) (tM Z) (tysM Z) res) 0 0 (ws_A 24 (za Z)) := by
  refine Met.ofW (cc := cX12_type) (maxL := 5) (ret := (some .int)) (by decide) rfl ?_
  intro p e s m args below meth c s₁ B hml hv
  obtain ⟨rfl, hE, hJ, hP, hK⟩ := hv
  have hl := lv_entry ([.ref (za Z 0), .long p0, .int p1]) (n := 5) (Nat.le_of_ble_eq_true rfl)
  rw [lg_entry_eq]
  generalize (lg_sl ([.ref (za Z 0), .long p0, .int p1]) ++ List.replicate (5 - (lg_sl ([.ref (za Z 0), .long p0, .int p1])).length) Slot.unset).toArray = ls at hl ⊢
  exact kb_X12_type_0 Z    ⟨B.exec, B.bytes, B.returns, B.notSynchronized, hml, findClass_of_methodNamed B.named, atoms_spec (ws := wsX12_type) B.pre, hE, hJ, hK⟩ σ p0 p1 h s.heap [] hP va_S.rf ls hl
/-! TuneSearchModel.isDigit(I)Z -/
abbrev rm_X12_isDigit : Room := { frames := 0, cells := 0, slots := 0, locals := 0 }
theorem in_X12_isDigit_X12 : ∀ w ∈ wsX120, w ∈ wsX12_isDigit := by decide +kernel
def m_X12_isDigit_0    (σ : SG) (p0 : Int32) : Option (Int32 × SG) :=
  if (σ.1 0 7) ≤ p0 then (some (0, σ)) else (gB (inB p0 160) (if (σ.1 5 p0.toNatClampNeg) < 48 then (some (0, σ)) else (gB (inB p0 160) (if 57 < (σ.1 5 p0.toNatClampNeg) then (some (0, σ)) else (some (1, σ))))))
set_option maxHeartbeats 4000000 in
set_option maxRecDepth 100000 in
theorem kb_X12_isDigit_0 {p : Program} {l : Launch} {e : Env} {s : State} {m : MethodId} {args : Array Value} {below : List Frame} {meth : Method} {c : Code} {E : EF} (Z : ZT)    (C : cy p s m args meth c cX12_isDigit (some .boolean) 2 RX12 wsX12_isDigit E (zD Z) vwCl 24 (za Z) (tysM Z)) {res : Int32 × SG}   : ∀ (σ : SG) (p0 : Int32) , m_X12_isDigit_0    σ p0 = some res → ∀ (H : Heap) (locs : List Loc), ws_P (zD Z) vwCl 24 (za Z) (tM Z) σ H → va_S (ws_A 24 (za Z)) s.heap H locs → ∀ (ls : Array Slot), lv_has ls 2 [(0, .ref (za Z 0)), (1, .int p0)] → W p l e rm_X12_isDigit s m args below meth c H locs 0 0 (MQ below (xQi E (zD Z) vwCl 24 (za Z) (tM Z) (tysM Z) res) args s 0 0 (ws_A 24 (za Z))) (F0 m 0 ls []) := by
  have C0 := C
  obtain ⟨hx, hb, hr, hlocks, hml, hown, hts, hE, hJ, hK⟩ := C0
  intro σ p0  h H locs hP hS ls hl
  unfold m_X12_isDigit_0 at h
  refine lv_iload_n hx hb dX12_isDigit_0 rfl (lv_at hl 1 rfl) ?_
  refine lv_aload_n hx hb dX12_isDigit_1 rfl (lv_at hl 0 rfl) ?_
  refine wr_get (C := RX12) (T := TX12) (N := 41) hx hb hts (in_X12_isDigit_X12) hown hK hP (k := 0) (by decide) ((tM_0 Z) _ _ _) rfl 7 (by decide) (hts (.fieldLink RX12 101 "TuneSearchModel" "taped" "I") (by decide +kernel)) (fun _ h9 => h9) rfl dX12_isDigit_2 ?_
  refine lv_icmp_ge (tgt := 34) hx hb dX12_isDigit_5 (by decide) (fun q1 => ?_) (fun q1 => ?_)
  · have h := if_p h q1
    refine lv_iconst (v := 0) hx hb dX12_isDigit_34 (by decide) ?_
    exact xr_zret hx hb hr hlocks hE hJ hK hP hS rfl h dX12_isDigit_35
  · have h := if_n h q1
    refine lv_aload_n hx hb dX12_isDigit_8 rfl (lv_at hl 0 rfl) ?_
    refine wr_get (C := RX12) (T := TX12) (N := 41) hx hb hts (in_X12_isDigit_X12) hown hK hP (k := 0) (by decide) ((tM_0 Z) _ _ _) rfl 6 (by decide) (hts (.fieldLink RX12 24 "TuneSearchModel" "tape" "[B") (by decide +kernel)) (fun _ h9 => h9) rfl dX12_isDigit_9 ?_
    refine lv_iload_n hx hb dX12_isDigit_12 rfl (lv_at hl 1 rfl) ?_
    obtain ⟨b2, h⟩ := gB_e h
    refine wr_bald hx hb hK hP (k := 5) (by decide) 2 ((tM_5 Z) _ _ _) rfl b2 dX12_isDigit_13 ?_
    refine lv_bipush (v := 48) hx hb dX12_isDigit_14 (by decide) ?_
    refine lv_icmp_lt (tgt := 34) hx hb dX12_isDigit_16 (by decide) (fun q3 => ?_) (fun q3 => ?_)
    · have h := if_p h q3
      refine lv_iconst (v := 0) hx hb dX12_isDigit_34 (by decide) ?_
      exact xr_zret hx hb hr hlocks hE hJ hK hP hS rfl h dX12_isDigit_35
    · have h := if_n h q3
      refine lv_aload_n hx hb dX12_isDigit_19 rfl (lv_at hl 0 rfl) ?_
      refine wr_get (C := RX12) (T := TX12) (N := 41) hx hb hts (in_X12_isDigit_X12) hown hK hP (k := 0) (by decide) ((tM_0 Z) _ _ _) rfl 6 (by decide) (hts (.fieldLink RX12 24 "TuneSearchModel" "tape" "[B") (by decide +kernel)) (fun _ h9 => h9) rfl dX12_isDigit_20 ?_
      refine lv_iload_n hx hb dX12_isDigit_23 rfl (lv_at hl 1 rfl) ?_
      obtain ⟨b4, h⟩ := gB_e h
      refine wr_bald hx hb hK hP (k := 5) (by decide) 2 ((tM_5 Z) _ _ _) rfl b4 dX12_isDigit_24 ?_
      refine lv_bipush (v := 57) hx hb dX12_isDigit_25 (by decide) ?_
      refine lv_icmp_gt (tgt := 34) hx hb dX12_isDigit_27 (by decide) (fun q5 => ?_) (fun q5 => ?_)
      · have h := if_p h q5
        refine lv_iconst (v := 0) hx hb dX12_isDigit_34 (by decide) ?_
        exact xr_zret hx hb hr hlocks hE hJ hK hP hS rfl h dX12_isDigit_35
      · have h := if_n h q5
        refine lv_iconst (v := 1) hx hb dX12_isDigit_30 (by decide) ?_
        refine lv_goto (tgt := 35) hx hb dX12_isDigit_31 (by decide) ?_
        exact xr_zret hx hb hr hlocks hE hJ hK hP hS rfl h dX12_isDigit_35
def m_X12_isDigit   (σ : SG) (p0 : Int32) : Option (Int32 × SG) := m_X12_isDigit_0   σ p0
set_option maxHeartbeats 4000000 in
set_option maxRecDepth 100000 in
theorem k_X12_isDigit (l : Launch) {E : EF} (Z : ZT)    (σ : SG) (p0 : Int32) {res : Int32 × SG} (h : m_X12_isDigit   σ p0 = some res) : Met l yX12_isDigit wsX12_isDigit rm_X12_isDigit (va_Pc [.ref (za Z 0), .int p0] (wx E (zD Z) vwCl 24 (za Z) (tM Z) (tysM Z) σ)) (xQi E (zD Z) vwCl 24 (za Z) (tM Z) (tysM Z) res) 0 0 (ws_A 24 (za Z)) := by
  refine Met.ofW (cc := cX12_isDigit) (maxL := 2) (ret := (some .boolean)) (by decide) rfl ?_
  intro p e s m args below meth c s₁ B hml hv
  obtain ⟨rfl, hE, hJ, hP, hK⟩ := hv
  have hl := lv_entry ([.ref (za Z 0), .int p0]) (n := 2) (Nat.le_of_ble_eq_true rfl)
  rw [lg_entry_eq]
  generalize (lg_sl ([.ref (za Z 0), .int p0]) ++ List.replicate (2 - (lg_sl ([.ref (za Z 0), .int p0])).length) Slot.unset).toArray = ls at hl ⊢
  exact kb_X12_isDigit_0 Z    ⟨B.exec, B.bytes, B.returns, B.notSynchronized, hml, findClass_of_methodNamed B.named, atoms_spec (ws := wsX12_isDigit) B.pre, hE, hJ, hK⟩ σ p0 h s.heap [] hP va_S.rf ls hl
/-! TuneSearchModel.fault(I)V -/
abbrev rm_X12_fault : Room := { frames := 0, cells := 0, slots := 0, locals := 0 }
theorem in_X12_fault_X12 : ∀ w ∈ wsX120, w ∈ wsX12_fault := by decide +kernel
def m_X12_fault_0    (σ : SG) (p0 : Int32) : Option (Unit × SG) :=
  if ¬ (σ.1 0 12) = 0 then (some ((), σ)) else (lS (sI σ 0 12 p0) (fun σ2 => lS (sI σ2 0 13 (σ2.1 0 10)) (fun σ4 => some ((), σ4))))
set_option maxHeartbeats 4000000 in
set_option maxRecDepth 100000 in
theorem kb_X12_fault_0 {p : Program} {l : Launch} {e : Env} {s : State} {m : MethodId} {args : Array Value} {below : List Frame} {meth : Method} {c : Code} {E : EF} (Z : ZT)    (C : cy p s m args meth c cX12_fault none 2 RX12 wsX12_fault E (zD Z) vwCl 24 (za Z) (tysM Z)) {res : Unit × SG}   : ∀ (σ : SG) (p0 : Int32) , m_X12_fault_0    σ p0 = some res → ∀ (H : Heap) (locs : List Loc), ws_P (zD Z) vwCl 24 (za Z) (tM Z) σ H → va_S (ws_A 24 (za Z)) s.heap H locs → ∀ (ls : Array Slot), lv_has ls 2 [(0, .ref (za Z 0)), (1, .int p0)] → W p l e rm_X12_fault s m args below meth c H locs 0 0 (MQ below (xQv E (zD Z) vwCl 24 (za Z) (tM Z) (tysM Z) res) args s 0 0 (ws_A 24 (za Z))) (F0 m 0 ls []) := by
  have C0 := C
  obtain ⟨hx, hb, hr, hlocks, hml, hown, hts, hE, hJ, hK⟩ := C0
  intro σ p0  h H locs hP hS ls hl
  unfold m_X12_fault_0 at h
  refine lv_aload_n hx hb dX12_fault_0 rfl (lv_at hl 0 rfl) ?_
  refine wr_get (C := RX12) (T := TX12) (N := 41) hx hb hts (in_X12_fault_X12) hown hK hP (k := 0) (by decide) ((tM_0 Z) _ _ _) rfl 12 (by decide) (hts (.fieldLink RX12 127 "TuneSearchModel" "faultNumber" "I") (by decide +kernel)) (fun _ h9 => h9) rfl dX12_fault_1 ?_
  refine lv_if_ne (tgt := 20) hx hb dX12_fault_4 (by decide) (fun q1 => ?_) (fun q1 => ?_)
  · have h := if_p h q1
    exact xr_vret hx hb hr hlocks hE hJ hK hP hS h dX12_fault_20
  · have h := if_n h (fun z => z q1)
    refine lv_aload_n hx hb dX12_fault_7 rfl (lv_at hl 0 rfl) ?_
    refine lv_iload_n hx hb dX12_fault_8 rfl (lv_at hl 1 rfl) ?_
    refine wr_put (C := RX12) (T := TX12) (N := 41) (σ' := sI σ 0 12 p0) (ty := .int) hx hb hts (in_X12_fault_X12) tyX12 tyX12_ok nmX12 hown hK hP hJ hS (k := 0) (by decide) ((tM_0 Z) _ _ _) rfl 12 (by decide) (hts (.fieldLink RX12 127 "TuneSearchModel" "faultNumber" "I") (by decide +kernel)) (fun _ h9 => h9) rfl (by decide +kernel) rfl rfl (Nat.le_of_ble_eq_true rfl) (ws_pI (tM_0 Z) rfl) dX12_fault_9 (fun H locs hP hS => ?_)
    obtain ⟨σ2, e3, h⟩ := lS_e h
    rw [← e3] at hP
    refine lv_aload_n hx hb dX12_fault_12 rfl (lv_at hl 0 rfl) ?_
    refine lv_aload_n hx hb dX12_fault_13 rfl (lv_at hl 0 rfl) ?_
    refine wr_get (C := RX12) (T := TX12) (N := 41) hx hb hts (in_X12_fault_X12) hown hK hP (k := 0) (by decide) ((tM_0 Z) _ _ _) rfl 10 (by decide) (hts (.fieldLink RX12 107 "TuneSearchModel" "place" "I") (by decide +kernel)) (fun _ h9 => h9) rfl dX12_fault_14 ?_
    refine wr_put (C := RX12) (T := TX12) (N := 41) (σ' := sI σ2 0 13 (σ2.1 0 10)) (ty := .int) hx hb hts (in_X12_fault_X12) tyX12 tyX12_ok nmX12 hown hK hP hJ hS (k := 0) (by decide) ((tM_0 Z) _ _ _) rfl 13 (by decide) (hts (.fieldLink RX12 130 "TuneSearchModel" "faultPlace" "I") (by decide +kernel)) (fun _ h9 => h9) rfl (by decide +kernel) rfl rfl (Nat.le_of_ble_eq_true rfl) (ws_pI (tM_0 Z) rfl) dX12_fault_17 (fun H locs hP hS => ?_)
    obtain ⟨σ4, e5, h⟩ := lS_e h
    rw [← e5] at hP
    exact xr_vret hx hb hr hlocks hE hJ hK hP hS h dX12_fault_20
def m_X12_fault   (σ : SG) (p0 : Int32) : Option (Unit × SG) := m_X12_fault_0   σ p0
set_option maxHeartbeats 4000000 in
set_option maxRecDepth 100000 in
theorem k_X12_fault (l : Launch) {E : EF} (Z : ZT)    (σ : SG) (p0 : Int32) {res : Unit × SG} (h : m_X12_fault   σ p0 = some res) : Met l yX12_fault wsX12_fault rm_X12_fault (va_Pc [.ref (za Z 0), .int p0] (wx E (zD Z) vwCl 24 (za Z) (tM Z) (tysM Z) σ)) (xQv E (zD Z) vwCl 24 (za Z) (tM Z) (tysM Z) res) 0 0 (ws_A 24 (za Z)) := by
  refine Met.ofW (cc := cX12_fault) (maxL := 2) (ret := none) (by decide) rfl ?_
  intro p e s m args below meth c s₁ B hml hv
  obtain ⟨rfl, hE, hJ, hP, hK⟩ := hv
  have hl := lv_entry ([.ref (za Z 0), .int p0]) (n := 2) (Nat.le_of_ble_eq_true rfl)
  rw [lg_entry_eq]
  generalize (lg_sl ([.ref (za Z 0), .int p0]) ++ List.replicate (2 - (lg_sl ([.ref (za Z 0), .int p0])).length) Slot.unset).toArray = ls at hl ⊢
  exact kb_X12_fault_0 Z    ⟨B.exec, B.bytes, B.returns, B.notSynchronized, hml, findClass_of_methodNamed B.named, atoms_spec (ws := wsX12_fault) B.pre, hE, hJ, hK⟩ σ p0 h s.heap [] hP va_S.rf ls hl
/-! TuneSearchModel.good()Z -/
abbrev rm_X12_good : Room := { frames := 0, cells := 0, slots := 0, locals := 0 }
theorem in_X12_good_X12 : ∀ w ∈ wsX120, w ∈ wsX12_good := by decide +kernel
def m_X12_good_0    (σ : SG)  : Option (Int32 × SG) :=
  if ¬ (σ.1 0 12) = 0 then (some (0, σ)) else (some (1, σ))
set_option maxHeartbeats 4000000 in
set_option maxRecDepth 100000 in
theorem kb_X12_good_0 {p : Program} {l : Launch} {e : Env} {s : State} {m : MethodId} {args : Array Value} {below : List Frame} {meth : Method} {c : Code} {E : EF} (Z : ZT)    (C : cy p s m args meth c cX12_good (some .boolean) 1 RX12 wsX12_good E (zD Z) vwCl 24 (za Z) (tysM Z)) {res : Int32 × SG}   : ∀ (σ : SG)  , m_X12_good_0    σ  = some res → ∀ (H : Heap) (locs : List Loc), ws_P (zD Z) vwCl 24 (za Z) (tM Z) σ H → va_S (ws_A 24 (za Z)) s.heap H locs → ∀ (ls : Array Slot), lv_has ls 1 [(0, .ref (za Z 0))] → W p l e rm_X12_good s m args below meth c H locs 0 0 (MQ below (xQi E (zD Z) vwCl 24 (za Z) (tM Z) (tysM Z) res) args s 0 0 (ws_A 24 (za Z))) (F0 m 0 ls []) := by
  have C0 := C
  obtain ⟨hx, hb, hr, hlocks, hml, hown, hts, hE, hJ, hK⟩ := C0
  intro σ   h H locs hP hS ls hl
  unfold m_X12_good_0 at h
  refine lv_aload_n hx hb dX12_good_0 rfl (lv_at hl 0 rfl) ?_
  refine wr_get (C := RX12) (T := TX12) (N := 41) hx hb hts (in_X12_good_X12) hown hK hP (k := 0) (by decide) ((tM_0 Z) _ _ _) rfl 12 (by decide) (hts (.fieldLink RX12 127 "TuneSearchModel" "faultNumber" "I") (by decide +kernel)) (fun _ h9 => h9) rfl dX12_good_1 ?_
  refine lv_if_ne (tgt := 11) hx hb dX12_good_4 (by decide) (fun q1 => ?_) (fun q1 => ?_)
  · have h := if_p h q1
    refine lv_iconst (v := 0) hx hb dX12_good_11 (by decide) ?_
    exact xr_zret hx hb hr hlocks hE hJ hK hP hS rfl h dX12_good_12
  · have h := if_n h (fun z => z q1)
    refine lv_iconst (v := 1) hx hb dX12_good_7 (by decide) ?_
    refine lv_goto (tgt := 12) hx hb dX12_good_8 (by decide) ?_
    exact xr_zret hx hb hr hlocks hE hJ hK hP hS rfl h dX12_good_12
def m_X12_good   (σ : SG)  : Option (Int32 × SG) := m_X12_good_0   σ 
set_option maxHeartbeats 4000000 in
set_option maxRecDepth 100000 in
theorem k_X12_good (l : Launch) {E : EF} (Z : ZT)    (σ : SG)  {res : Int32 × SG} (h : m_X12_good   σ  = some res) : Met l yX12_good wsX12_good rm_X12_good (va_Pc [.ref (za Z 0)] (wx E (zD Z) vwCl 24 (za Z) (tM Z) (tysM Z) σ)) (xQi E (zD Z) vwCl 24 (za Z) (tM Z) (tysM Z) res) 0 0 (ws_A 24 (za Z)) := by
  refine Met.ofW (cc := cX12_good) (maxL := 1) (ret := (some .boolean)) (by decide) rfl ?_
  intro p e s m args below meth c s₁ B hml hv
  obtain ⟨rfl, hE, hJ, hP, hK⟩ := hv
  have hl := lv_entry ([.ref (za Z 0)]) (n := 1) (Nat.le_of_ble_eq_true rfl)
  rw [lg_entry_eq]
  generalize (lg_sl ([.ref (za Z 0)]) ++ List.replicate (1 - (lg_sl ([.ref (za Z 0)])).length) Slot.unset).toArray = ls at hl ⊢
  exact kb_X12_good_0 Z    ⟨B.exec, B.bytes, B.returns, B.notSynchronized, hml, findClass_of_methodNamed B.named, atoms_spec (ws := wsX12_good) B.pre, hE, hJ, hK⟩ σ  h s.heap [] hP va_S.rf ls hl
/-! TuneSearchModel.is(I)Z -/
abbrev rm_X12_is : Room := { frames := 1, cells := 0, slots := 0, locals := 20 }
theorem in_X12_is_X12 : ∀ w ∈ wsX120, w ∈ wsX12_is := by decide +kernel
def m_X12_is_0    (σ : SG) (p0 : Int32) : Option (Int32 × SG) :=
  bi (m_X12_good  σ ) (fun v1 σ2 => if v1 = 0 then (some (0, σ2)) else (if ¬ (σ2.1 0 9) = 2 then (some (0, σ2)) else (if ¬ (σ2.1 0 11) = p0 then (some (0, σ2)) else (some (1, σ2)))))
set_option maxHeartbeats 4000000 in
set_option maxRecDepth 100000 in
theorem kb_X12_is_0 {p : Program} {l : Launch} {e : Env} {s : State} {m : MethodId} {args : Array Value} {below : List Frame} {meth : Method} {c : Code} {E : EF} (Z : ZT)    (C : cy p s m args meth c cX12_is (some .boolean) 2 RX12 wsX12_is E (zD Z) vwCl 24 (za Z) (tysM Z)) {res : Int32 × SG}   : ∀ (σ : SG) (p0 : Int32) , m_X12_is_0    σ p0 = some res → ∀ (H : Heap) (locs : List Loc), ws_P (zD Z) vwCl 24 (za Z) (tM Z) σ H → va_S (ws_A 24 (za Z)) s.heap H locs → ∀ (ls : Array Slot), lv_has ls 2 [(0, .ref (za Z 0)), (1, .int p0)] → W p l e rm_X12_is s m args below meth c H locs 0 0 (MQ below (xQi E (zD Z) vwCl 24 (za Z) (tM Z) (tysM Z) res) args s 0 0 (ws_A 24 (za Z))) (F0 m 0 ls []) := by
  have C0 := C
  obtain ⟨hx, hb, hr, hlocks, hml, hown, hts, hE, hJ, hK⟩ := C0
  intro σ p0  h H locs hP hS ls hl
  unfold m_X12_is_0 at h
  refine lv_aload_n hx hb dX12_is_0 rfl (lv_at hl 0 rfl) ?_
  obtain ⟨v1, σ2, hm3, h⟩ := bi_e h
  refine xr_calli (res := (v1, σ2)) (va_runV (As := []) (rest := []) ⟨hx, hb, hml, hown, hts⟩ (k_X12_good l Z   σ  hm3) (cwV 0 hts gX12_is_X12_good rfl rfl rfl (by decide +kernel) ⟨Nat.le_of_ble_eq_true rfl, Nat.le_of_ble_eq_true rfl⟩) ⟨wx_blind, wr_recv hK hP (k := 0) (by decide) ((tM_0 Z) _ _ _) rfl, fun U hU hW => ⟨rfl, wx_at hE hJ hP hK hS hU hW⟩⟩ rfl rfl hl.1 rfl (lv_room (Nat.le_of_ble_eq_true rfl)) dX12_is_1 ⟨Nat.le_of_ble_eq_true rfl, Nat.le_of_ble_eq_true rfl⟩) hS (fun H locs hP hS => ?_)
  have hP : ws_P (zD Z) vwCl 24 (za Z) (tM Z) σ2 H := hP
  refine lv_if_eq (tgt := 27) hx hb dX12_is_4 (by decide) (fun q4 => ?_) (fun q4 => ?_)
  · have h := if_p h q4
    refine lv_iconst (v := 0) hx hb dX12_is_27 (by decide) ?_
    exact xr_zret hx hb hr hlocks hE hJ hK hP hS rfl h dX12_is_28
  · have h := if_n h q4
    refine lv_aload_n hx hb dX12_is_7 rfl (lv_at hl 0 rfl) ?_
    refine wr_get (C := RX12) (T := TX12) (N := 41) hx hb hts (in_X12_is_X12) hown hK hP (k := 0) (by decide) ((tM_0 Z) _ _ _) rfl 9 (by decide) (hts (.fieldLink RX12 110 "TuneSearchModel" "token" "I") (by decide +kernel)) (fun _ h9 => h9) rfl dX12_is_8 ?_
    refine lv_iconst (v := 2) hx hb dX12_is_11 (by decide) ?_
    refine lv_icmp_ne (tgt := 27) hx hb dX12_is_12 (by decide) (fun q5 => ?_) (fun q5 => ?_)
    · have h := if_p h q5
      refine lv_iconst (v := 0) hx hb dX12_is_27 (by decide) ?_
      exact xr_zret hx hb hr hlocks hE hJ hK hP hS rfl h dX12_is_28
    · have h := if_n h (fun z => z q5)
      refine lv_aload_n hx hb dX12_is_15 rfl (lv_at hl 0 rfl) ?_
      refine wr_get (C := RX12) (T := TX12) (N := 41) hx hb hts (in_X12_is_X12) hown hK hP (k := 0) (by decide) ((tM_0 Z) _ _ _) rfl 11 (by decide) (hts (.fieldLink RX12 116 "TuneSearchModel" "what" "I") (by decide +kernel)) (fun _ h9 => h9) rfl dX12_is_16 ?_
      refine lv_iload_n hx hb dX12_is_19 rfl (lv_at hl 1 rfl) ?_
      refine lv_icmp_ne (tgt := 27) hx hb dX12_is_20 (by decide) (fun q6 => ?_) (fun q6 => ?_)
      · have h := if_p h q6
        refine lv_iconst (v := 0) hx hb dX12_is_27 (by decide) ?_
        exact xr_zret hx hb hr hlocks hE hJ hK hP hS rfl h dX12_is_28
      · have h := if_n h (fun z => z q6)
        refine lv_iconst (v := 1) hx hb dX12_is_23 (by decide) ?_
        refine lv_goto (tgt := 28) hx hb dX12_is_24 (by decide) ?_
        exact xr_zret hx hb hr hlocks hE hJ hK hP hS rfl h dX12_is_28
def m_X12_is   (σ : SG) (p0 : Int32) : Option (Int32 × SG) := m_X12_is_0   σ p0
set_option maxHeartbeats 4000000 in
set_option maxRecDepth 100000 in
theorem k_X12_is (l : Launch) {E : EF} (Z : ZT)    (σ : SG) (p0 : Int32) {res : Int32 × SG} (h : m_X12_is   σ p0 = some res) : Met l yX12_is wsX12_is rm_X12_is (va_Pc [.ref (za Z 0), .int p0] (wx E (zD Z) vwCl 24 (za Z) (tM Z) (tysM Z) σ)) (xQi E (zD Z) vwCl 24 (za Z) (tM Z) (tysM Z) res) 0 0 (ws_A 24 (za Z)) := by
  refine Met.ofW (cc := cX12_is) (maxL := 2) (ret := (some .boolean)) (by decide) rfl ?_
  intro p e s m args below meth c s₁ B hml hv
  obtain ⟨rfl, hE, hJ, hP, hK⟩ := hv
  have hl := lv_entry ([.ref (za Z 0), .int p0]) (n := 2) (Nat.le_of_ble_eq_true rfl)
  rw [lg_entry_eq]
  generalize (lg_sl ([.ref (za Z 0), .int p0]) ++ List.replicate (2 - (lg_sl ([.ref (za Z 0), .int p0])).length) Slot.unset).toArray = ls at hl ⊢
  exact kb_X12_is_0 Z    ⟨B.exec, B.bytes, B.returns, B.notSynchronized, hml, findClass_of_methodNamed B.named, atoms_spec (ws := wsX12_is) B.pre, hE, hJ, hK⟩ σ p0 h s.heap [] hP va_S.rf ls hl
/-! TuneSearchModel.misplaced()V -/
abbrev rm_X12_misplaced : Room := { frames := 1, cells := 0, slots := 0, locals := 21 }
theorem in_X12_misplaced_X12 : ∀ w ∈ wsX120, w ∈ wsX12_misplaced := by decide +kernel
def m_X12_misplaced_0    (σ : SG)  : Option (Unit × SG) :=
  if ¬ (σ.1 0 9) = 3 then (bi (m_X12_fault  σ 2) (fun v2 σ3 => some ((), σ3))) else (bi (m_X12_fault  σ 1) (fun v5 σ6 => some ((), σ6)))
set_option maxHeartbeats 4000000 in
set_option maxRecDepth 100000 in
theorem kb_X12_misplaced_0 {p : Program} {l : Launch} {e : Env} {s : State} {m : MethodId} {args : Array Value} {below : List Frame} {meth : Method} {c : Code} {E : EF} (Z : ZT)    (C : cy p s m args meth c cX12_misplaced none 1 RX12 wsX12_misplaced E (zD Z) vwCl 24 (za Z) (tysM Z)) {res : Unit × SG}   : ∀ (σ : SG)  , m_X12_misplaced_0    σ  = some res → ∀ (H : Heap) (locs : List Loc), ws_P (zD Z) vwCl 24 (za Z) (tM Z) σ H → va_S (ws_A 24 (za Z)) s.heap H locs → ∀ (ls : Array Slot), lv_has ls 1 [(0, .ref (za Z 0))] → W p l e rm_X12_misplaced s m args below meth c H locs 0 0 (MQ below (xQv E (zD Z) vwCl 24 (za Z) (tM Z) (tysM Z) res) args s 0 0 (ws_A 24 (za Z))) (F0 m 0 ls []) := by
  have C0 := C
  obtain ⟨hx, hb, hr, hlocks, hml, hown, hts, hE, hJ, hK⟩ := C0
  intro σ   h H locs hP hS ls hl
  unfold m_X12_misplaced_0 at h
  refine lv_aload_n hx hb dX12_misplaced_0 rfl (lv_at hl 0 rfl) ?_
  refine lv_aload_n hx hb dX12_misplaced_1 rfl (lv_at hl 0 rfl) ?_
  refine wr_get (C := RX12) (T := TX12) (N := 41) hx hb hts (in_X12_misplaced_X12) hown hK hP (k := 0) (by decide) ((tM_0 Z) _ _ _) rfl 9 (by decide) (hts (.fieldLink RX12 110 "TuneSearchModel" "token" "I") (by decide +kernel)) (fun _ h9 => h9) rfl dX12_misplaced_2 ?_
  refine lv_iconst (v := 3) hx hb dX12_misplaced_5 (by decide) ?_
  refine lv_icmp_ne (tgt := 13) hx hb dX12_misplaced_6 (by decide) (fun q1 => ?_) (fun q1 => ?_)
  · have h := if_p h q1
    refine lv_iconst (v := 2) hx hb dX12_misplaced_13 (by decide) ?_
    obtain ⟨v2, σ3, hm4, h⟩ := bi_e h
    refine xr_callv (res := (v2, σ3)) (va_runV (As := [.int 2]) (rest := []) ⟨hx, hb, hml, hown, hts⟩ (k_X12_fault l Z   σ 2 hm4) (cwV 1 hts gX12_misplaced_X12_fault rfl rfl rfl (by decide +kernel) ⟨Nat.le_of_ble_eq_true rfl, Nat.le_of_ble_eq_true rfl⟩) ⟨wx_blind, wr_recv hK hP (k := 0) (by decide) ((tM_0 Z) _ _ _) rfl, fun U hU hW => ⟨rfl, wx_at hE hJ hP hK hS hU hW⟩⟩ rfl rfl hl.1 rfl (lv_room (Nat.le_of_ble_eq_true rfl)) dX12_misplaced_14 ⟨Nat.le_of_ble_eq_true rfl, Nat.le_of_ble_eq_true rfl⟩) hS (fun H locs hP hS => ?_)
    have hP : ws_P (zD Z) vwCl 24 (za Z) (tM Z) σ3 H := hP
    exact xr_vret hx hb hr hlocks hE hJ hK hP hS h dX12_misplaced_17
  · have h := if_n h (fun z => z q1)
    refine lv_iconst (v := 1) hx hb dX12_misplaced_9 (by decide) ?_
    refine lv_goto (tgt := 14) hx hb dX12_misplaced_10 (by decide) ?_
    obtain ⟨v5, σ6, hm7, h⟩ := bi_e h
    refine xr_callv (res := (v5, σ6)) (va_runV (As := [.int 1]) (rest := []) ⟨hx, hb, hml, hown, hts⟩ (k_X12_fault l Z   σ 1 hm7) (cwV 1 hts gX12_misplaced_X12_fault rfl rfl rfl (by decide +kernel) ⟨Nat.le_of_ble_eq_true rfl, Nat.le_of_ble_eq_true rfl⟩) ⟨wx_blind, wr_recv hK hP (k := 0) (by decide) ((tM_0 Z) _ _ _) rfl, fun U hU hW => ⟨rfl, wx_at hE hJ hP hK hS hU hW⟩⟩ rfl rfl hl.1 rfl (lv_room (Nat.le_of_ble_eq_true rfl)) dX12_misplaced_14 ⟨Nat.le_of_ble_eq_true rfl, Nat.le_of_ble_eq_true rfl⟩) hS (fun H locs hP hS => ?_)
    have hP : ws_P (zD Z) vwCl 24 (za Z) (tM Z) σ6 H := hP
    exact xr_vret hx hb hr hlocks hE hJ hK hP hS h dX12_misplaced_17
def m_X12_misplaced   (σ : SG)  : Option (Unit × SG) := m_X12_misplaced_0   σ 
set_option maxHeartbeats 4000000 in
set_option maxRecDepth 100000 in
theorem k_X12_misplaced (l : Launch) {E : EF} (Z : ZT)    (σ : SG)  {res : Unit × SG} (h : m_X12_misplaced   σ  = some res) : Met l yX12_misplaced wsX12_misplaced rm_X12_misplaced (va_Pc [.ref (za Z 0)] (wx E (zD Z) vwCl 24 (za Z) (tM Z) (tysM Z) σ)) (xQv E (zD Z) vwCl 24 (za Z) (tM Z) (tysM Z) res) 0 0 (ws_A 24 (za Z)) := by
  refine Met.ofW (cc := cX12_misplaced) (maxL := 1) (ret := none) (by decide) rfl ?_
  intro p e s m args below meth c s₁ B hml hv
  obtain ⟨rfl, hE, hJ, hP, hK⟩ := hv
  have hl := lv_entry ([.ref (za Z 0)]) (n := 1) (Nat.le_of_ble_eq_true rfl)
  rw [lg_entry_eq]
  generalize (lg_sl ([.ref (za Z 0)]) ++ List.replicate (1 - (lg_sl ([.ref (za Z 0)])).length) Slot.unset).toArray = ls at hl ⊢
  exact kb_X12_misplaced_0 Z    ⟨B.exec, B.bytes, B.returns, B.notSynchronized, hml, findClass_of_methodNamed B.named, atoms_spec (ws := wsX12_misplaced) B.pre, hE, hJ, hK⟩ σ  h s.heap [] hP va_S.rf ls hl
/-! TuneSearchModel.node(III)I -/
abbrev rm_X12_node : Room := { frames := 0, cells := 0, slots := 0, locals := 0 }
theorem in_X12_node_X12 : ∀ w ∈ wsX120, w ∈ wsX12_node := by decide +kernel
def m_X12_node_0    (σ : SG) (p0 : Int32) (p1 : Int32) (p2 : Int32) : Option (Int32 × SG) :=
  gB (inB (σ.1 0 18) 1000) (lS (sI σ 6 (σ.1 0 18).toNatClampNeg p0) (fun σ2 => gB (inB (σ2.1 0 18) 1000) (lS (sI σ2 7 (σ2.1 0 18).toNatClampNeg p1) (fun σ5 => gB (inB (σ5.1 0 18) 1000) (lS (sI σ5 8 (σ5.1 0 18).toNatClampNeg p2) (fun σ8 => lS (sI σ8 0 18 ((σ8.1 0 18) + 1)) (fun σ10 => some ((σ10.1 0 18) - 1, σ10))))))))
set_option maxHeartbeats 4000000 in
set_option maxRecDepth 100000 in
theorem kb_X12_node_0 {p : Program} {l : Launch} {e : Env} {s : State} {m : MethodId} {args : Array Value} {below : List Frame} {meth : Method} {c : Code} {E : EF} (Z : ZT)    (C : cy p s m args meth c cX12_node (some .int) 4 RX12 wsX12_node E (zD Z) vwCl 24 (za Z) (tysM Z)) {res : Int32 × SG}   : ∀ (σ : SG) (p0 : Int32) (p1 : Int32) (p2 : Int32) , m_X12_node_0    σ p0 p1 p2 = some res → ∀ (H : Heap) (locs : List Loc), ws_P (zD Z) vwCl 24 (za Z) (tM Z) σ H → va_S (ws_A 24 (za Z)) s.heap H locs → ∀ (ls : Array Slot), lv_has ls 4 [(0, .ref (za Z 0)), (1, .int p0), (2, .int p1), (3, .int p2)] → W p l e rm_X12_node s m args below meth c H locs 0 0 (MQ below (xQi E (zD Z) vwCl 24 (za Z) (tM Z) (tysM Z) res) args s 0 0 (ws_A 24 (za Z))) (F0 m 0 ls []) := by
  have C0 := C
  obtain ⟨hx, hb, hr, hlocks, hml, hown, hts, hE, hJ, hK⟩ := C0
  intro σ p0 p1 p2  h H locs hP hS ls hl
  unfold m_X12_node_0 at h
  refine lv_aload_n hx hb dX12_node_0 rfl (lv_at hl 0 rfl) ?_
  refine wr_get (C := RX12) (T := TX12) (N := 41) hx hb hts (in_X12_node_X12) hown hK hP (k := 0) (by decide) ((tM_0 Z) _ _ _) rfl 15 (by decide) (hts (.fieldLink RX12 28 "TuneSearchModel" "kind" "[I") (by decide +kernel)) (fun _ h9 => h9) rfl dX12_node_1 ?_
  refine lv_aload_n hx hb dX12_node_4 rfl (lv_at hl 0 rfl) ?_
  refine wr_get (C := RX12) (T := TX12) (N := 41) hx hb hts (in_X12_node_X12) hown hK hP (k := 0) (by decide) ((tM_0 Z) _ _ _) rfl 18 (by decide) (hts (.fieldLink RX12 150 "TuneSearchModel" "nodes" "I") (by decide +kernel)) (fun _ h9 => h9) rfl dX12_node_5 ?_
  refine lv_iload_n hx hb dX12_node_8 rfl (lv_at hl 1 rfl) ?_
  obtain ⟨b1, h⟩ := gB_e h
  refine wr_iast hx hb hK hP hJ hS (k := 6) (by decide) 0 (tM_6 Z) rfl b1 dX12_node_9 (fun H locs hP hS => ?_)
  obtain ⟨σ2, e3, h⟩ := lS_e h
  rw [← e3] at hP
  refine lv_aload_n hx hb dX12_node_10 rfl (lv_at hl 0 rfl) ?_
  refine wr_get (C := RX12) (T := TX12) (N := 41) hx hb hts (in_X12_node_X12) hown hK hP (k := 0) (by decide) ((tM_0 Z) _ _ _) rfl 16 (by decide) (hts (.fieldLink RX12 31 "TuneSearchModel" "a" "[I") (by decide +kernel)) (fun _ h9 => h9) rfl dX12_node_11 ?_
  refine lv_aload_n hx hb dX12_node_14 rfl (lv_at hl 0 rfl) ?_
  refine wr_get (C := RX12) (T := TX12) (N := 41) hx hb hts (in_X12_node_X12) hown hK hP (k := 0) (by decide) ((tM_0 Z) _ _ _) rfl 18 (by decide) (hts (.fieldLink RX12 150 "TuneSearchModel" "nodes" "I") (by decide +kernel)) (fun _ h9 => h9) rfl dX12_node_15 ?_
  refine lv_iload_n hx hb dX12_node_18 rfl (lv_at hl 2 rfl) ?_
  obtain ⟨b4, h⟩ := gB_e h
  refine wr_iast hx hb hK hP hJ hS (k := 7) (by decide) 0 (tM_7 Z) rfl b4 dX12_node_19 (fun H locs hP hS => ?_)
  obtain ⟨σ5, e6, h⟩ := lS_e h
  rw [← e6] at hP
  refine lv_aload_n hx hb dX12_node_20 rfl (lv_at hl 0 rfl) ?_
  refine wr_get (C := RX12) (T := TX12) (N := 41) hx hb hts (in_X12_node_X12) hown hK hP (k := 0) (by decide) ((tM_0 Z) _ _ _) rfl 17 (by decide) (hts (.fieldLink RX12 34 "TuneSearchModel" "b" "[I") (by decide +kernel)) (fun _ h9 => h9) rfl dX12_node_21 ?_
  refine lv_aload_n hx hb dX12_node_24 rfl (lv_at hl 0 rfl) ?_
  refine wr_get (C := RX12) (T := TX12) (N := 41) hx hb hts (in_X12_node_X12) hown hK hP (k := 0) (by decide) ((tM_0 Z) _ _ _) rfl 18 (by decide) (hts (.fieldLink RX12 150 "TuneSearchModel" "nodes" "I") (by decide +kernel)) (fun _ h9 => h9) rfl dX12_node_25 ?_
  refine lv_iload_n hx hb dX12_node_28 rfl (lv_at hl 3 rfl) ?_
  obtain ⟨b7, h⟩ := gB_e h
  refine wr_iast hx hb hK hP hJ hS (k := 8) (by decide) 0 (tM_8 Z) rfl b7 dX12_node_29 (fun H locs hP hS => ?_)
  obtain ⟨σ8, e9, h⟩ := lS_e h
  rw [← e9] at hP
  refine lv_aload_n hx hb dX12_node_30 rfl (lv_at hl 0 rfl) ?_
  refine lv_dup hx hb dX12_node_31 rfl ?_
  refine wr_get (C := RX12) (T := TX12) (N := 41) hx hb hts (in_X12_node_X12) hown hK hP (k := 0) (by decide) ((tM_0 Z) _ _ _) rfl 18 (by decide) (hts (.fieldLink RX12 150 "TuneSearchModel" "nodes" "I") (by decide +kernel)) (fun _ h9 => h9) rfl dX12_node_32 ?_
  refine lv_iconst (v := 1) hx hb dX12_node_35 (by decide) ?_
  refine lv_iadd hx hb dX12_node_36 ?_
  refine wr_put (C := RX12) (T := TX12) (N := 41) (σ' := sI σ8 0 18 ((σ8.1 0 18) + 1)) (ty := .int) hx hb hts (in_X12_node_X12) tyX12 tyX12_ok nmX12 hown hK hP hJ hS (k := 0) (by decide) ((tM_0 Z) _ _ _) rfl 18 (by decide) (hts (.fieldLink RX12 150 "TuneSearchModel" "nodes" "I") (by decide +kernel)) (fun _ h9 => h9) rfl (by decide +kernel) rfl rfl (Nat.le_of_ble_eq_true rfl) (ws_pI (tM_0 Z) rfl) dX12_node_37 (fun H locs hP hS => ?_)
  obtain ⟨σ10, e11, h⟩ := lS_e h
  rw [← e11] at hP
  refine lv_aload_n hx hb dX12_node_40 rfl (lv_at hl 0 rfl) ?_
  refine wr_get (C := RX12) (T := TX12) (N := 41) hx hb hts (in_X12_node_X12) hown hK hP (k := 0) (by decide) ((tM_0 Z) _ _ _) rfl 18 (by decide) (hts (.fieldLink RX12 150 "TuneSearchModel" "nodes" "I") (by decide +kernel)) (fun _ h9 => h9) rfl dX12_node_41 ?_
  refine lv_iconst (v := 1) hx hb dX12_node_44 (by decide) ?_
  refine lv_isub hx hb dX12_node_45 ?_
  exact xr_iret hx hb hr hlocks hE hJ hK hP hS h dX12_node_46
def m_X12_node   (σ : SG) (p0 : Int32) (p1 : Int32) (p2 : Int32) : Option (Int32 × SG) := m_X12_node_0   σ p0 p1 p2
set_option maxHeartbeats 4000000 in
set_option maxRecDepth 100000 in
theorem k_X12_node (l : Launch) {E : EF} (Z : ZT)    (σ : SG) (p0 : Int32) (p1 : Int32) (p2 : Int32) {res : Int32 × SG} (h : m_X12_node   σ p0 p1 p2 = some res) : Met l yX12_node wsX12_node rm_X12_node (va_Pc [.ref (za Z 0), .int p0, .int p1, .int p2] (wx E (zD Z) vwCl 24 (za Z) (tM Z) (tysM Z) σ)) (xQi E (zD Z) vwCl 24 (za Z) (tM Z) (tysM Z) res) 0 0 (ws_A 24 (za Z)) := by
  refine Met.ofW (cc := cX12_node) (maxL := 4) (ret := (some .int)) (by decide) rfl ?_
  intro p e s m args below meth c s₁ B hml hv
  obtain ⟨rfl, hE, hJ, hP, hK⟩ := hv
  have hl := lv_entry ([.ref (za Z 0), .int p0, .int p1, .int p2]) (n := 4) (Nat.le_of_ble_eq_true rfl)
  rw [lg_entry_eq]
  generalize (lg_sl ([.ref (za Z 0), .int p0, .int p1, .int p2]) ++ List.replicate (4 - (lg_sl ([.ref (za Z 0), .int p0, .int p1, .int p2])).length) Slot.unset).toArray = ls at hl ⊢
  exact kb_X12_node_0 Z    ⟨B.exec, B.bytes, B.returns, B.notSynchronized, hml, findClass_of_methodNamed B.named, atoms_spec (ws := wsX12_node) B.pre, hE, hJ, hK⟩ σ p0 p1 p2 h s.heap [] hP va_S.rf ls hl
/-! TuneSearchModel.fault()I -/
abbrev rm_X12_fault_ : Room := { frames := 0, cells := 0, slots := 0, locals := 0 }
theorem in_X12_fault__X12 : ∀ w ∈ wsX120, w ∈ wsX12_fault_ := by decide +kernel
def m_X12_fault__0    (σ : SG)  : Option (Int32 × SG) :=
  lS (sI σ 0 0 0) (fun σ1 => some (σ1.1 0 14, σ1))
set_option maxHeartbeats 4000000 in
set_option maxRecDepth 100000 in
theorem kb_X12_fault__0 {p : Program} {l : Launch} {e : Env} {s : State} {m : MethodId} {args : Array Value} {below : List Frame} {meth : Method} {c : Code} {E : EF} (Z : ZT)    (C : cy p s m args meth c cX12_fault_ (some .int) 1 RX12 wsX12_fault_ E (zD Z) vwCl 24 (za Z) (tysM Z)) {res : Int32 × SG}   : ∀ (σ : SG)  , m_X12_fault__0    σ  = some res → ∀ (H : Heap) (locs : List Loc), ws_P (zD Z) vwCl 24 (za Z) (tM Z) σ H → va_S (ws_A 24 (za Z)) s.heap H locs → ∀ (ls : Array Slot), lv_has ls 1 [(0, .ref (za Z 0))] → W p l e rm_X12_fault_ s m args below meth c H locs 0 0 (MQ below (xQi E (zD Z) vwCl 24 (za Z) (tM Z) (tysM Z) res) args s 0 0 (ws_A 24 (za Z))) (F0 m 0 ls []) := by
  have C0 := C
  obtain ⟨hx, hb, hr, hlocks, hml, hown, hts, hE, hJ, hK⟩ := C0
  intro σ   h H locs hP hS ls hl
  unfold m_X12_fault__0 at h
  refine lv_aload_n hx hb dX12_fault__0 rfl (lv_at hl 0 rfl) ?_
  refine lv_iconst (v := 0) hx hb dX12_fault__1 (by decide) ?_
  refine wr_put (C := RX12) (T := TX12) (N := 41) (σ' := sI σ 0 0 0) (ty := .int) hx hb hts (in_X12_fault__X12) tyX12 tyX12_ok nmX12 hown hK hP hJ hS (k := 0) (by decide) ((tM_0 Z) _ _ _) rfl 0 (by decide) (hts (.fieldLink RX12 87 "TuneSearchModel" "code" "I") (by decide +kernel)) (fun _ h9 => h9) rfl (by decide +kernel) rfl rfl (Nat.le_of_ble_eq_true rfl) (ws_pI (tM_0 Z) rfl) dX12_fault__2 (fun H locs hP hS => ?_)
  obtain ⟨σ1, e2, h⟩ := lS_e h
  rw [← e2] at hP
  refine lv_aload_n hx hb dX12_fault__5 rfl (lv_at hl 0 rfl) ?_
  refine wr_get (C := RX12) (T := TX12) (N := 41) hx hb hts (in_X12_fault__X12) hown hK hP (k := 0) (by decide) ((tM_0 Z) _ _ _) rfl 14 (by decide) (hts (.fieldLink RX12 182 "TuneSearchModel" "lastFault" "I") (by decide +kernel)) (fun _ h9 => h9) rfl dX12_fault__6 ?_
  exact xr_iret hx hb hr hlocks hE hJ hK hP hS h dX12_fault__9
def m_X12_fault_   (σ : SG)  : Option (Int32 × SG) := m_X12_fault__0   σ 
set_option maxHeartbeats 4000000 in
set_option maxRecDepth 100000 in
theorem k_X12_fault_ (l : Launch) {E : EF} (Z : ZT)    (σ : SG)  {res : Int32 × SG} (h : m_X12_fault_   σ  = some res) : Met l yX12_fault_ wsX12_fault_ rm_X12_fault_ (va_Pc [.ref (za Z 0)] (wx E (zD Z) vwCl 24 (za Z) (tM Z) (tysM Z) σ)) (xQi E (zD Z) vwCl 24 (za Z) (tM Z) (tysM Z) res) 0 0 (ws_A 24 (za Z)) := by
  refine Met.ofW (cc := cX12_fault_) (maxL := 1) (ret := (some .int)) (by decide) rfl ?_
  intro p e s m args below meth c s₁ B hml hv
  obtain ⟨rfl, hE, hJ, hP, hK⟩ := hv
  have hl := lv_entry ([.ref (za Z 0)]) (n := 1) (Nat.le_of_ble_eq_true rfl)
  rw [lg_entry_eq]
  generalize (lg_sl ([.ref (za Z 0)]) ++ List.replicate (1 - (lg_sl ([.ref (za Z 0)])).length) Slot.unset).toArray = ls at hl ⊢
  exact kb_X12_fault__0 Z    ⟨B.exec, B.bytes, B.returns, B.notSynchronized, hml, findClass_of_methodNamed B.named, atoms_spec (ws := wsX12_fault_) B.pre, hE, hJ, hK⟩ σ  h s.heap [] hP va_S.rf ls hl
/-! TuneSearchModel.side(II)I -/
abbrev rm_X12_side : Room := { frames := 0, cells := 0, slots := 0, locals := 0 }
def m_X12_side_0    (σ : SG) (p0 : Int32) (p1 : Int32) : Option (Int32 × SG) :=
  if p0 ≤ p1 then (if p1 ≤ p0 then (some (0, σ)) else (some ((-1), σ))) else (some (1, σ))
set_option maxHeartbeats 4000000 in
set_option maxRecDepth 100000 in
theorem kb_X12_side_0 {p : Program} {l : Launch} {e : Env} {s : State} {m : MethodId} {args : Array Value} {below : List Frame} {meth : Method} {c : Code} {E : EF} (Z : ZT)    (C : cy p s m args meth c cX12_side (some .int) 2 RX12 wsX12_side E (zD Z) vwCl 24 (za Z) (tysM Z)) {res : Int32 × SG}   : ∀ (σ : SG) (p0 : Int32) (p1 : Int32) , m_X12_side_0    σ p0 p1 = some res → ∀ (H : Heap) (locs : List Loc), ws_P (zD Z) vwCl 24 (za Z) (tM Z) σ H → va_S (ws_A 24 (za Z)) s.heap H locs → ∀ (ls : Array Slot), lv_has ls 2 [(0, .int p0), (1, .int p1)] → W p l e rm_X12_side s m args below meth c H locs 0 0 (MQ below (xQi E (zD Z) vwCl 24 (za Z) (tM Z) (tysM Z) res) args s 0 0 (ws_A 24 (za Z))) (F0 m 0 ls []) := by
  have C0 := C
  obtain ⟨hx, hb, hr, hlocks, hml, hown, hts, hE, hJ, hK⟩ := C0
  intro σ p0 p1  h H locs hP hS ls hl
  unfold m_X12_side_0 at h
  refine lv_iload_n hx hb dX12_side_0 rfl (lv_at hl 0 rfl) ?_
  refine lv_iload_n hx hb dX12_side_1 rfl (lv_at hl 1 rfl) ?_
  refine lv_icmp_le (tgt := 9) hx hb dX12_side_2 (by decide) (fun q1 => ?_) (fun q1 => ?_)
  · have h := if_p h q1
    refine lv_iload_n hx hb dX12_side_9 rfl (lv_at hl 0 rfl) ?_
    refine lv_iload_n hx hb dX12_side_10 rfl (lv_at hl 1 rfl) ?_
    refine lv_icmp_ge (tgt := 18) hx hb dX12_side_11 (by decide) (fun q2 => ?_) (fun q2 => ?_)
    · have h := if_p h q2
      refine lv_iconst (v := 0) hx hb dX12_side_18 (by decide) ?_
      exact xr_iret hx hb hr hlocks hE hJ hK hP hS h dX12_side_19
    · have h := if_n h q2
      refine lv_iconst (v := (-1)) hx hb dX12_side_14 (by decide) ?_
      refine lv_goto (tgt := 19) hx hb dX12_side_15 (by decide) ?_
      exact xr_iret hx hb hr hlocks hE hJ hK hP hS h dX12_side_19
  · have h := if_n h q1
    refine lv_iconst (v := 1) hx hb dX12_side_5 (by decide) ?_
    refine lv_goto (tgt := 19) hx hb dX12_side_6 (by decide) ?_
    exact xr_iret hx hb hr hlocks hE hJ hK hP hS h dX12_side_19
def m_X12_side   (σ : SG) (p0 : Int32) (p1 : Int32) : Option (Int32 × SG) := m_X12_side_0   σ p0 p1
set_option maxHeartbeats 4000000 in
set_option maxRecDepth 100000 in
theorem k_X12_side (l : Launch) {E : EF} (Z : ZT)    (σ : SG) (p0 : Int32) (p1 : Int32) {res : Int32 × SG} (h : m_X12_side   σ p0 p1 = some res) : Met l yX12_side wsX12_side rm_X12_side (va_Pc [.int p0, .int p1] (wx E (zD Z) vwCl 24 (za Z) (tM Z) (tysM Z) σ)) (xQi E (zD Z) vwCl 24 (za Z) (tM Z) (tysM Z) res) 0 0 (ws_A 24 (za Z)) := by
  refine Met.ofW (cc := cX12_side) (maxL := 2) (ret := (some .int)) (by decide) rfl ?_
  intro p e s m args below meth c s₁ B hml hv
  obtain ⟨rfl, hE, hJ, hP, hK⟩ := hv
  have hl := lv_entry ([.int p0, .int p1]) (n := 2) (Nat.le_of_ble_eq_true rfl)
  rw [lg_entry_eq]
  generalize (lg_sl ([.int p0, .int p1]) ++ List.replicate (2 - (lg_sl ([.int p0, .int p1])).length) Slot.unset).toArray = ls at hl ⊢
  exact kb_X12_side_0 Z    ⟨B.exec, B.bytes, B.returns, B.notSynchronized, hml, findClass_of_methodNamed B.named, atoms_spec (ws := wsX12_side) B.pre, hE, hJ, hK⟩ σ p0 p1 h s.heap [] hP va_S.rf ls hl
/-! TuneSearchModel.look(II)V -/
abbrev rm_X12_look : Room := { frames := 1, cells := 0, slots := 0, locals := 21 }
theorem in_X12_look_X12 : ∀ w ∈ wsX120, w ∈ wsX12_look := by decide +kernel
def m_X12_look_207   (c44 : SG → Int32 → Int32 → Int32 → Int32 → Int32 → Option (Unit × SG)) (σ : SG) (l1 : Int32) (l2 : Int32) (l3 : Int32) (l4 : Int32) (l5 : Int32) (s0 : Int32) (s1 : Int32) : Option (Unit × SG) :=
  gB (inB s1 24) (lS (sI σ 9 s1.toNatClampNeg s0) (fun σ35 => lS (sI σ35 0 23 ((σ35.1 0 23) + 1)) (fun σ37 => lS (l5 + 1) (fun v39 => c44 σ37 l1 l2 l3 l4 v39))))
set_option maxHeartbeats 4000000 in
set_option maxRecDepth 100000 in
theorem kb_X12_look_207 {p : Program} {l : Launch} {e : Env} {s : State} {m : MethodId} {args : Array Value} {below : List Frame} {meth : Method} {c : Code} {E : EF} (Z : ZT)    (C : cy p s m args meth c cX12_look none 11 RX12 wsX12_look E (zD Z) vwCl 24 (za Z) (tysM Z)) {res : Unit × SG} {c44 : SG → Int32 → Int32 → Int32 → Int32 → Int32 → Option (Unit × SG)} (hc44 : ∀ (σ : SG) (l1 : Int32) (l2 : Int32) (l3 : Int32) (l4 : Int32) (l5 : Int32) , c44 σ l1 l2 l3 l4 l5 = some res → ∀ (H : Heap) (locs : List Loc), ws_P (zD Z) vwCl 24 (za Z) (tM Z) σ H → va_S (ws_A 24 (za Z)) s.heap H locs → ∀ (ls : Array Slot), lv_has ls 11 [(0, .ref (za Z 0)), (1, .int l1), (2, .int l2), (3, .int l3), (4, .int l4), (5, .int l5)] → W p l e rm_X12_look s m args below meth c H locs 0 0 (MQ below (xQv E (zD Z) vwCl 24 (za Z) (tM Z) (tysM Z) res) args s 0 0 (ws_A 24 (za Z))) (F0 m 44 ls [])) : ∀ (σ : SG) (l1 : Int32) (l2 : Int32) (l3 : Int32) (l4 : Int32) (l5 : Int32) (s0 : Int32) (s1 : Int32) , m_X12_look_207   c44 σ l1 l2 l3 l4 l5 s0 s1 = some res → ∀ (H : Heap) (locs : List Loc), ws_P (zD Z) vwCl 24 (za Z) (tM Z) σ H → va_S (ws_A 24 (za Z)) s.heap H locs → ∀ (ls : Array Slot), lv_has ls 11 [(0, .ref (za Z 0)), (1, .int l1), (2, .int l2), (3, .int l3), (4, .int l4), (5, .int l5)] → W p l e rm_X12_look s m args below meth c H locs 0 0 (MQ below (xQv E (zD Z) vwCl 24 (za Z) (tM Z) (tysM Z) res) args s 0 0 (ws_A 24 (za Z))) (F0 m 207 ls [.int s0, .int s1, .ref (za Z 9)]) := by
  have C0 := C
  obtain ⟨hx, hb, hr, hlocks, hml, hown, hts, hE, hJ, hK⟩ := C0
  intro σ l1 l2 l3 l4 l5 s0 s1  h H locs hP hS ls hl
  unfold m_X12_look_207 at h
  obtain ⟨b34, h⟩ := gB_e h
  refine wr_iast hx hb hK hP hJ hS (k := 9) (by decide) 0 (tM_9 Z) rfl b34 dX12_look_207 (fun H locs hP hS => ?_)
  obtain ⟨σ35, e36, h⟩ := lS_e h
  rw [← e36] at hP
  refine lv_aload_n hx hb dX12_look_208 rfl (lv_at hl 0 rfl) ?_
  refine lv_dup hx hb dX12_look_209 rfl ?_
  refine wr_get (C := RX12) (T := TX12) (N := 41) hx hb hts (in_X12_look_X12) hown hK hP (k := 0) (by decide) ((tM_0 Z) _ _ _) rfl 23 (by decide) (hts (.fieldLink RX12 191 "TuneSearchModel" "signCount" "I") (by decide +kernel)) (fun _ h9 => h9) rfl dX12_look_210 ?_
  refine lv_iconst (v := 1) hx hb dX12_look_213 (by decide) ?_
  refine lv_iadd hx hb dX12_look_214 ?_
  refine wr_put (C := RX12) (T := TX12) (N := 41) (σ' := sI σ35 0 23 ((σ35.1 0 23) + 1)) (ty := .int) hx hb hts (in_X12_look_X12) tyX12 tyX12_ok nmX12 hown hK hP hJ hS (k := 0) (by decide) ((tM_0 Z) _ _ _) rfl 23 (by decide) (hts (.fieldLink RX12 191 "TuneSearchModel" "signCount" "I") (by decide +kernel)) (fun _ h9 => h9) rfl (by decide +kernel) rfl rfl (Nat.le_of_ble_eq_true rfl) (ws_pI (tM_0 Z) rfl) dX12_look_215 (fun H locs hP hS => ?_)
  obtain ⟨σ37, e38, h⟩ := lS_e h
  rw [← e38] at hP
  obtain ⟨v39, e40, h⟩ := lS_e h
  refine lv_iinc (v := v39) (lv' := [(5, .int v39), (0, .ref (za Z 0)), (1, .int l1), (2, .int l2), (3, .int l3), (4, .int l4)]) hx hb dX12_look_218 hl (k := 5) rfl (by rw [e40]; rfl) (by decide) rfl (fun ls hl => ?_)
  refine lv_goto (tgt := 44) hx hb dX12_look_221 (by decide) ?_
  exact hc44 σ37 l1 l2 l3 l4 v39 h H locs hP hS ls (lv_sub hl [1, 2, 3, 4, 5, 0] rfl)
def m_X12_look_184   (c44 : SG → Int32 → Int32 → Int32 → Int32 → Int32 → Option (Unit × SG)) (σ : SG) (l1 : Int32) (l2 : Int32) (l3 : Int32) (l4 : Int32) (l5 : Int32) (l9 : Int32) (s0 : Int32) : Option (Unit × SG) :=
  if l9 = 0 then (m_X12_look_207   c44 σ l1 l2 l3 l4 l5 s0 (σ.1 0 23)) else (m_X12_look_207   c44 σ l1 l2 l3 l4 l5 1000 (σ.1 0 23))
set_option maxHeartbeats 4000000 in
set_option maxRecDepth 100000 in
theorem kb_X12_look_184 {p : Program} {l : Launch} {e : Env} {s : State} {m : MethodId} {args : Array Value} {below : List Frame} {meth : Method} {c : Code} {E : EF} (Z : ZT)    (C : cy p s m args meth c cX12_look none 11 RX12 wsX12_look E (zD Z) vwCl 24 (za Z) (tysM Z)) {res : Unit × SG} {c44 : SG → Int32 → Int32 → Int32 → Int32 → Int32 → Option (Unit × SG)} (hc44 : ∀ (σ : SG) (l1 : Int32) (l2 : Int32) (l3 : Int32) (l4 : Int32) (l5 : Int32) , c44 σ l1 l2 l3 l4 l5 = some res → ∀ (H : Heap) (locs : List Loc), ws_P (zD Z) vwCl 24 (za Z) (tM Z) σ H → va_S (ws_A 24 (za Z)) s.heap H locs → ∀ (ls : Array Slot), lv_has ls 11 [(0, .ref (za Z 0)), (1, .int l1), (2, .int l2), (3, .int l3), (4, .int l4), (5, .int l5)] → W p l e rm_X12_look s m args below meth c H locs 0 0 (MQ below (xQv E (zD Z) vwCl 24 (za Z) (tM Z) (tysM Z) res) args s 0 0 (ws_A 24 (za Z))) (F0 m 44 ls [])) : ∀ (σ : SG) (l1 : Int32) (l2 : Int32) (l3 : Int32) (l4 : Int32) (l5 : Int32) (l9 : Int32) (s0 : Int32) , m_X12_look_184   c44 σ l1 l2 l3 l4 l5 l9 s0 = some res → ∀ (H : Heap) (locs : List Loc), ws_P (zD Z) vwCl 24 (za Z) (tM Z) σ H → va_S (ws_A 24 (za Z)) s.heap H locs → ∀ (ls : Array Slot), lv_has ls 11 [(0, .ref (za Z 0)), (1, .int l1), (2, .int l2), (3, .int l3), (4, .int l4), (5, .int l5), (9, .int l9)] → W p l e rm_X12_look s m args below meth c H locs 0 0 (MQ below (xQv E (zD Z) vwCl 24 (za Z) (tM Z) (tysM Z) res) args s 0 0 (ws_A 24 (za Z))) (F0 m 184 ls [.int s0]) := by
  have C0 := C
  obtain ⟨hx, hb, hr, hlocks, hml, hown, hts, hE, hJ, hK⟩ := C0
  intro σ l1 l2 l3 l4 l5 l9 s0  h H locs hP hS ls hl
  unfold m_X12_look_184 at h
  refine lv_istore (lv' := [(10, .int s0), (0, .ref (za Z 0)), (1, .int l1), (2, .int l2), (3, .int l3), (4, .int l4), (5, .int l5), (9, .int l9)]) hx hb dX12_look_184 hl (by decide) rfl (fun ls hl => ?_)
  refine lv_aload_n hx hb dX12_look_186 rfl (lv_at hl 1 rfl) ?_
  refine wr_get (C := RX12) (T := TX12) (N := 41) hx hb hts (in_X12_look_X12) hown hK hP (k := 0) (by decide) ((tM_0 Z) _ _ _) rfl 22 (by decide) (hts (.fieldLink RX12 41 "TuneSearchModel" "signs" "[I") (by decide +kernel)) (fun _ h9 => h9) rfl dX12_look_187 ?_
  refine lv_aload_n hx hb dX12_look_190 rfl (lv_at hl 1 rfl) ?_
  refine wr_get (C := RX12) (T := TX12) (N := 41) hx hb hts (in_X12_look_X12) hown hK hP (k := 0) (by decide) ((tM_0 Z) _ _ _) rfl 23 (by decide) (hts (.fieldLink RX12 191 "TuneSearchModel" "signCount" "I") (by decide +kernel)) (fun _ h9 => h9) rfl dX12_look_191 ?_
  refine lv_iload hx hb dX12_look_194 (lv_at hl 7 rfl) ?_
  refine lv_if_eq (tgt := 205) hx hb dX12_look_196 (by decide) (fun q33 => ?_) (fun q33 => ?_)
  · have h := if_p h q33
    refine lv_iload hx hb dX12_look_205 (lv_at hl 0 rfl) ?_
    exact kb_X12_look_207 Z    C  hc44 σ l1 l2 l3 l4 l5 s0 (σ.1 0 23) h H locs hP hS ls (lv_sub hl [1, 2, 3, 4, 5, 6] rfl)
  · have h := if_n h q33
    refine lv_sipush (v := 1000) hx hb dX12_look_199 (by decide) ?_
    refine lv_goto (tgt := 207) hx hb dX12_look_202 (by decide) ?_
    exact kb_X12_look_207 Z    C  hc44 σ l1 l2 l3 l4 l5 1000 (σ.1 0 23) h H locs hP hS ls (lv_sub hl [1, 2, 3, 4, 5, 6] rfl)
def m_X12_look_119   (c44 : SG → Int32 → Int32 → Int32 → Int32 → Int32 → Option (Unit × SG)) (σ : SG) (l1 : Int32) (l2 : Int32) (l3 : Int32) (l4 : Int32) (l5 : Int32) (l6 : Int32) (l7 : Int32) (l8 : Int32) (s0 : Int32) : Option (Unit × SG) :=
  if ¬ l2 = 0 then (if ¬ l2 = 1 then (if ¬ l2 = 2 then (if ¬ l2 = 3 then (gB (inB ((l3 + l5) - 1) 216) (bi (m_X12_side  σ l7 (σ.1 2 ((l3 + l5) - 1).toNatClampNeg)) (fun v27 σ28 => m_X12_look_184   c44 σ28 l1 l2 l3 l4 l5 s0 v27))) else (m_X12_look_184   c44 σ l1 l2 l3 l4 l5 s0 l7)) else (bi (m_X12_side  σ l6 l8) (fun v30 σ31 => m_X12_look_184   c44 σ31 l1 l2 l3 l4 l5 s0 v30))) else (m_X12_look_184   c44 σ l1 l2 l3 l4 l5 s0 (l6 - l8))) else (m_X12_look_184   c44 σ l1 l2 l3 l4 l5 s0 l6)
set_option maxHeartbeats 4000000 in
set_option maxRecDepth 100000 in
theorem kb_X12_look_119 {p : Program} {l : Launch} {e : Env} {s : State} {m : MethodId} {args : Array Value} {below : List Frame} {meth : Method} {c : Code} {E : EF} (Z : ZT)    (C : cy p s m args meth c cX12_look none 11 RX12 wsX12_look E (zD Z) vwCl 24 (za Z) (tysM Z)) {res : Unit × SG} {c44 : SG → Int32 → Int32 → Int32 → Int32 → Int32 → Option (Unit × SG)} (hc44 : ∀ (σ : SG) (l1 : Int32) (l2 : Int32) (l3 : Int32) (l4 : Int32) (l5 : Int32) , c44 σ l1 l2 l3 l4 l5 = some res → ∀ (H : Heap) (locs : List Loc), ws_P (zD Z) vwCl 24 (za Z) (tM Z) σ H → va_S (ws_A 24 (za Z)) s.heap H locs → ∀ (ls : Array Slot), lv_has ls 11 [(0, .ref (za Z 0)), (1, .int l1), (2, .int l2), (3, .int l3), (4, .int l4), (5, .int l5)] → W p l e rm_X12_look s m args below meth c H locs 0 0 (MQ below (xQv E (zD Z) vwCl 24 (za Z) (tM Z) (tysM Z) res) args s 0 0 (ws_A 24 (za Z))) (F0 m 44 ls [])) : ∀ (σ : SG) (l1 : Int32) (l2 : Int32) (l3 : Int32) (l4 : Int32) (l5 : Int32) (l6 : Int32) (l7 : Int32) (l8 : Int32) (s0 : Int32) , m_X12_look_119   c44 σ l1 l2 l3 l4 l5 l6 l7 l8 s0 = some res → ∀ (H : Heap) (locs : List Loc), ws_P (zD Z) vwCl 24 (za Z) (tM Z) σ H → va_S (ws_A 24 (za Z)) s.heap H locs → ∀ (ls : Array Slot), lv_has ls 11 [(0, .ref (za Z 0)), (1, .int l1), (2, .int l2), (3, .int l3), (4, .int l4), (5, .int l5), (6, .int l6), (7, .int l7), (8, .int l8)] → W p l e rm_X12_look s m args below meth c H locs 0 0 (MQ below (xQv E (zD Z) vwCl 24 (za Z) (tM Z) (tysM Z) res) args s 0 0 (ws_A 24 (za Z))) (F0 m 119 ls [.int s0]) := by
  have C0 := C
  obtain ⟨hx, hb, hr, hlocks, hml, hown, hts, hE, hJ, hK⟩ := C0
  intro σ l1 l2 l3 l4 l5 l6 l7 l8 s0  h H locs hP hS ls hl
  unfold m_X12_look_119 at h
  refine lv_istore (lv' := [(9, .int s0), (0, .ref (za Z 0)), (1, .int l1), (2, .int l2), (3, .int l3), (4, .int l4), (5, .int l5), (6, .int l6), (7, .int l7), (8, .int l8)]) hx hb dX12_look_119 hl (by decide) rfl (fun ls hl => ?_)
  refine lv_iload_n hx hb dX12_look_121 rfl (lv_at hl 3 rfl) ?_
  refine lv_if_ne (tgt := 130) hx hb dX12_look_122 (by decide) (fun q22 => ?_) (fun q22 => ?_)
  · have h := if_p h q22
    refine lv_iload_n hx hb dX12_look_130 rfl (lv_at hl 3 rfl) ?_
    refine lv_iconst (v := 1) hx hb dX12_look_131 (by decide) ?_
    refine lv_icmp_ne (tgt := 143) hx hb dX12_look_132 (by decide) (fun q23 => ?_) (fun q23 => ?_)
    · have h := if_p h q23
      refine lv_iload_n hx hb dX12_look_143 rfl (lv_at hl 3 rfl) ?_
      refine lv_iconst (v := 2) hx hb dX12_look_144 (by decide) ?_
      refine lv_icmp_ne (tgt := 158) hx hb dX12_look_145 (by decide) (fun q24 => ?_) (fun q24 => ?_)
      · have h := if_p h q24
        refine lv_iload_n hx hb dX12_look_158 rfl (lv_at hl 3 rfl) ?_
        refine lv_iconst (v := 3) hx hb dX12_look_159 (by decide) ?_
        refine lv_icmp_ne (tgt := 168) hx hb dX12_look_160 (by decide) (fun q25 => ?_) (fun q25 => ?_)
        · have h := if_p h q25
          refine lv_iload hx hb dX12_look_168 (lv_at hl 8 rfl) ?_
          refine lv_aload_n hx hb dX12_look_170 rfl (lv_at hl 1 rfl) ?_
          refine wr_get (C := RX12) (T := TX12) (N := 41) hx hb hts (in_X12_look_X12) hown hK hP (k := 0) (by decide) ((tM_0 Z) _ _ _) rfl 2 (by decide) (hts (.fieldLink RX12 15 "TuneSearchModel" "length" "[I") (by decide +kernel)) (fun _ h9 => h9) rfl dX12_look_171 ?_
          refine lv_iload_n hx hb dX12_look_174 rfl (lv_at hl 4 rfl) ?_
          refine lv_iload hx hb dX12_look_175 (lv_at hl 6 rfl) ?_
          refine lv_iadd hx hb dX12_look_177 ?_
          refine lv_iconst (v := 1) hx hb dX12_look_178 (by decide) ?_
          refine lv_isub hx hb dX12_look_179 ?_
          obtain ⟨b26, h⟩ := gB_e h
          refine wr_iald hx hb hK hP (k := 2) (by decide) 0 ((tM_2 Z) _ _ _) rfl b26 dX12_look_180 ?_
          obtain ⟨v27, σ28, hm29, h⟩ := bi_e h
          refine xr_calli (res := (v27, σ28)) (va_runS (As := [.int l7, .int (σ.1 2 ((l3 + l5) - 1).toNatClampNeg)]) (rest := []) ⟨hx, hb, hml, hown, hts⟩ (k_X12_side l Z   σ l7 (σ.1 2 ((l3 + l5) - 1).toNatClampNeg) hm29) (va_cwS 2 hts gX12_look_X12_side rfl rfl rfl (by decide +kernel) ⟨Nat.le_of_ble_eq_true rfl, Nat.le_of_ble_eq_true rfl⟩) ⟨wx_blind, fun U hU hW => ⟨rfl, wx_at hE hJ hP hK hS hU hW⟩⟩ rfl rfl hl.1 rfl (lv_room (Nat.le_of_ble_eq_true rfl)) dX12_look_181 ⟨Nat.le_of_ble_eq_true rfl, Nat.le_of_ble_eq_true rfl⟩) hS (fun H locs hP hS => ?_)
          have hP : ws_P (zD Z) vwCl 24 (za Z) (tM Z) σ28 H := hP
          exact kb_X12_look_184 Z    C  hc44 σ28 l1 l2 l3 l4 l5 s0 v27 h H locs hP hS ls (lv_sub hl [1, 2, 3, 4, 5, 6, 0] rfl)
        · have h := if_n h (fun z => z q25)
          refine lv_iload hx hb dX12_look_163 (lv_at hl 8 rfl) ?_
          refine lv_goto (tgt := 184) hx hb dX12_look_165 (by decide) ?_
          exact kb_X12_look_184 Z    C  hc44 σ l1 l2 l3 l4 l5 s0 l7 h H locs hP hS ls (lv_sub hl [1, 2, 3, 4, 5, 6, 0] rfl)
      · have h := if_n h (fun z => z q24)
        refine lv_iload hx hb dX12_look_148 (lv_at hl 7 rfl) ?_
        refine lv_iload hx hb dX12_look_150 (lv_at hl 9 rfl) ?_
        obtain ⟨v30, σ31, hm32, h⟩ := bi_e h
        refine xr_calli (res := (v30, σ31)) (va_runS (As := [.int l6, .int l8]) (rest := []) ⟨hx, hb, hml, hown, hts⟩ (k_X12_side l Z   σ l6 l8 hm32) (va_cwS 2 hts gX12_look_X12_side rfl rfl rfl (by decide +kernel) ⟨Nat.le_of_ble_eq_true rfl, Nat.le_of_ble_eq_true rfl⟩) ⟨wx_blind, fun U hU hW => ⟨rfl, wx_at hE hJ hP hK hS hU hW⟩⟩ rfl rfl hl.1 rfl (lv_room (Nat.le_of_ble_eq_true rfl)) dX12_look_152 ⟨Nat.le_of_ble_eq_true rfl, Nat.le_of_ble_eq_true rfl⟩) hS (fun H locs hP hS => ?_)
        have hP : ws_P (zD Z) vwCl 24 (za Z) (tM Z) σ31 H := hP
        refine lv_goto (tgt := 184) hx hb dX12_look_155 (by decide) ?_
        exact kb_X12_look_184 Z    C  hc44 σ31 l1 l2 l3 l4 l5 s0 v30 h H locs hP hS ls (lv_sub hl [1, 2, 3, 4, 5, 6, 0] rfl)
    · have h := if_n h (fun z => z q23)
      refine lv_iload hx hb dX12_look_135 (lv_at hl 7 rfl) ?_
      refine lv_iload hx hb dX12_look_137 (lv_at hl 9 rfl) ?_
      refine lv_isub hx hb dX12_look_139 ?_
      refine lv_goto (tgt := 184) hx hb dX12_look_140 (by decide) ?_
      exact kb_X12_look_184 Z    C  hc44 σ l1 l2 l3 l4 l5 s0 (l6 - l8) h H locs hP hS ls (lv_sub hl [1, 2, 3, 4, 5, 6, 0] rfl)
  · have h := if_n h (fun z => z q22)
    refine lv_iload hx hb dX12_look_125 (lv_at hl 7 rfl) ?_
    refine lv_goto (tgt := 184) hx hb dX12_look_127 (by decide) ?_
    exact kb_X12_look_184 Z    C  hc44 σ l1 l2 l3 l4 l5 s0 l6 h H locs hP hS ls (lv_sub hl [1, 2, 3, 4, 5, 6, 0] rfl)
def m_X12_look_118   (c44 : SG → Int32 → Int32 → Int32 → Int32 → Int32 → Option (Unit × SG)) (σ : SG) (l1 : Int32) (l2 : Int32) (l3 : Int32) (l4 : Int32) (l5 : Int32) (l6 : Int32) (l7 : Int32) (l8 : Int32) : Option (Unit × SG) :=
  m_X12_look_119   c44 σ l1 l2 l3 l4 l5 l6 l7 l8 0
set_option maxHeartbeats 4000000 in
set_option maxRecDepth 100000 in
theorem kb_X12_look_118 {p : Program} {l : Launch} {e : Env} {s : State} {m : MethodId} {args : Array Value} {below : List Frame} {meth : Method} {c : Code} {E : EF} (Z : ZT)    (C : cy p s m args meth c cX12_look none 11 RX12 wsX12_look E (zD Z) vwCl 24 (za Z) (tysM Z)) {res : Unit × SG} {c44 : SG → Int32 → Int32 → Int32 → Int32 → Int32 → Option (Unit × SG)} (hc44 : ∀ (σ : SG) (l1 : Int32) (l2 : Int32) (l3 : Int32) (l4 : Int32) (l5 : Int32) , c44 σ l1 l2 l3 l4 l5 = some res → ∀ (H : Heap) (locs : List Loc), ws_P (zD Z) vwCl 24 (za Z) (tM Z) σ H → va_S (ws_A 24 (za Z)) s.heap H locs → ∀ (ls : Array Slot), lv_has ls 11 [(0, .ref (za Z 0)), (1, .int l1), (2, .int l2), (3, .int l3), (4, .int l4), (5, .int l5)] → W p l e rm_X12_look s m args below meth c H locs 0 0 (MQ below (xQv E (zD Z) vwCl 24 (za Z) (tM Z) (tysM Z) res) args s 0 0 (ws_A 24 (za Z))) (F0 m 44 ls [])) : ∀ (σ : SG) (l1 : Int32) (l2 : Int32) (l3 : Int32) (l4 : Int32) (l5 : Int32) (l6 : Int32) (l7 : Int32) (l8 : Int32) , m_X12_look_118   c44 σ l1 l2 l3 l4 l5 l6 l7 l8 = some res → ∀ (H : Heap) (locs : List Loc), ws_P (zD Z) vwCl 24 (za Z) (tM Z) σ H → va_S (ws_A 24 (za Z)) s.heap H locs → ∀ (ls : Array Slot), lv_has ls 11 [(0, .ref (za Z 0)), (1, .int l1), (2, .int l2), (3, .int l3), (4, .int l4), (5, .int l5), (6, .int l6), (7, .int l7), (8, .int l8)] → W p l e rm_X12_look s m args below meth c H locs 0 0 (MQ below (xQv E (zD Z) vwCl 24 (za Z) (tM Z) (tysM Z) res) args s 0 0 (ws_A 24 (za Z))) (F0 m 118 ls []) := by
  have C0 := C
  obtain ⟨hx, hb, hr, hlocks, hml, hown, hts, hE, hJ, hK⟩ := C0
  intro σ l1 l2 l3 l4 l5 l6 l7 l8  h H locs hP hS ls hl
  unfold m_X12_look_118 at h
  refine lv_iconst (v := 0) hx hb dX12_look_118 (by decide) ?_
  exact kb_X12_look_119 Z    C  hc44 σ l1 l2 l3 l4 l5 l6 l7 l8 0 h H locs hP hS ls (lv_sub hl [0, 1, 2, 3, 4, 5, 6, 7, 8] rfl)
def m_X12_look_114   (c44 : SG → Int32 → Int32 → Int32 → Int32 → Int32 → Option (Unit × SG)) (σ : SG) (l1 : Int32) (l2 : Int32) (l3 : Int32) (l4 : Int32) (l5 : Int32) (l6 : Int32) (l7 : Int32) (l8 : Int32) : Option (Unit × SG) :=
  m_X12_look_119   c44 σ l1 l2 l3 l4 l5 l6 l7 l8 1
set_option maxHeartbeats 4000000 in
set_option maxRecDepth 100000 in
theorem kb_X12_look_114 {p : Program} {l : Launch} {e : Env} {s : State} {m : MethodId} {args : Array Value} {below : List Frame} {meth : Method} {c : Code} {E : EF} (Z : ZT)    (C : cy p s m args meth c cX12_look none 11 RX12 wsX12_look E (zD Z) vwCl 24 (za Z) (tysM Z)) {res : Unit × SG} {c44 : SG → Int32 → Int32 → Int32 → Int32 → Int32 → Option (Unit × SG)} (hc44 : ∀ (σ : SG) (l1 : Int32) (l2 : Int32) (l3 : Int32) (l4 : Int32) (l5 : Int32) , c44 σ l1 l2 l3 l4 l5 = some res → ∀ (H : Heap) (locs : List Loc), ws_P (zD Z) vwCl 24 (za Z) (tM Z) σ H → va_S (ws_A 24 (za Z)) s.heap H locs → ∀ (ls : Array Slot), lv_has ls 11 [(0, .ref (za Z 0)), (1, .int l1), (2, .int l2), (3, .int l3), (4, .int l4), (5, .int l5)] → W p l e rm_X12_look s m args below meth c H locs 0 0 (MQ below (xQv E (zD Z) vwCl 24 (za Z) (tM Z) (tysM Z) res) args s 0 0 (ws_A 24 (za Z))) (F0 m 44 ls [])) : ∀ (σ : SG) (l1 : Int32) (l2 : Int32) (l3 : Int32) (l4 : Int32) (l5 : Int32) (l6 : Int32) (l7 : Int32) (l8 : Int32) , m_X12_look_114   c44 σ l1 l2 l3 l4 l5 l6 l7 l8 = some res → ∀ (H : Heap) (locs : List Loc), ws_P (zD Z) vwCl 24 (za Z) (tM Z) σ H → va_S (ws_A 24 (za Z)) s.heap H locs → ∀ (ls : Array Slot), lv_has ls 11 [(0, .ref (za Z 0)), (1, .int l1), (2, .int l2), (3, .int l3), (4, .int l4), (5, .int l5), (6, .int l6), (7, .int l7), (8, .int l8)] → W p l e rm_X12_look s m args below meth c H locs 0 0 (MQ below (xQv E (zD Z) vwCl 24 (za Z) (tM Z) (tysM Z) res) args s 0 0 (ws_A 24 (za Z))) (F0 m 114 ls []) := by
  have C0 := C
  obtain ⟨hx, hb, hr, hlocks, hml, hown, hts, hE, hJ, hK⟩ := C0
  intro σ l1 l2 l3 l4 l5 l6 l7 l8  h H locs hP hS ls hl
  unfold m_X12_look_114 at h
  refine lv_iconst (v := 1) hx hb dX12_look_114 (by decide) ?_
  refine lv_goto (tgt := 119) hx hb dX12_look_115 (by decide) ?_
  exact kb_X12_look_119 Z    C  hc44 σ l1 l2 l3 l4 l5 l6 l7 l8 1 h H locs hP hS ls (lv_sub hl [0, 1, 2, 3, 4, 5, 6, 7, 8] rfl)
def m_X12_look_97   (c44 : SG → Int32 → Int32 → Int32 → Int32 → Int32 → Option (Unit × SG)) (σ : SG) (l1 : Int32) (l2 : Int32) (l3 : Int32) (l4 : Int32) (l5 : Int32) (l6 : Int32) (l7 : Int32) (s0 : Int32) : Option (Unit × SG) :=
  if 3 ≤ l2 then (m_X12_look_118   c44 σ l1 l2 l3 l4 l5 l6 l7 s0) else (if l6 < 0 then (m_X12_look_114   c44 σ l1 l2 l3 l4 l5 l6 l7 s0) else (if 0 ≤ s0 then (m_X12_look_118   c44 σ l1 l2 l3 l4 l5 l6 l7 s0) else (m_X12_look_114   c44 σ l1 l2 l3 l4 l5 l6 l7 s0)))
set_option maxHeartbeats 4000000 in
set_option maxRecDepth 100000 in
theorem kb_X12_look_97 {p : Program} {l : Launch} {e : Env} {s : State} {m : MethodId} {args : Array Value} {below : List Frame} {meth : Method} {c : Code} {E : EF} (Z : ZT)    (C : cy p s m args meth c cX12_look none 11 RX12 wsX12_look E (zD Z) vwCl 24 (za Z) (tysM Z)) {res : Unit × SG} {c44 : SG → Int32 → Int32 → Int32 → Int32 → Int32 → Option (Unit × SG)} (hc44 : ∀ (σ : SG) (l1 : Int32) (l2 : Int32) (l3 : Int32) (l4 : Int32) (l5 : Int32) , c44 σ l1 l2 l3 l4 l5 = some res → ∀ (H : Heap) (locs : List Loc), ws_P (zD Z) vwCl 24 (za Z) (tM Z) σ H → va_S (ws_A 24 (za Z)) s.heap H locs → ∀ (ls : Array Slot), lv_has ls 11 [(0, .ref (za Z 0)), (1, .int l1), (2, .int l2), (3, .int l3), (4, .int l4), (5, .int l5)] → W p l e rm_X12_look s m args below meth c H locs 0 0 (MQ below (xQv E (zD Z) vwCl 24 (za Z) (tM Z) (tysM Z) res) args s 0 0 (ws_A 24 (za Z))) (F0 m 44 ls [])) : ∀ (σ : SG) (l1 : Int32) (l2 : Int32) (l3 : Int32) (l4 : Int32) (l5 : Int32) (l6 : Int32) (l7 : Int32) (s0 : Int32) , m_X12_look_97   c44 σ l1 l2 l3 l4 l5 l6 l7 s0 = some res → ∀ (H : Heap) (locs : List Loc), ws_P (zD Z) vwCl 24 (za Z) (tM Z) σ H → va_S (ws_A 24 (za Z)) s.heap H locs → ∀ (ls : Array Slot), lv_has ls 11 [(0, .ref (za Z 0)), (1, .int l1), (2, .int l2), (3, .int l3), (4, .int l4), (5, .int l5), (6, .int l6), (7, .int l7)] → W p l e rm_X12_look s m args below meth c H locs 0 0 (MQ below (xQv E (zD Z) vwCl 24 (za Z) (tM Z) (tysM Z) res) args s 0 0 (ws_A 24 (za Z))) (F0 m 97 ls [.int s0]) := by
  have C0 := C
  obtain ⟨hx, hb, hr, hlocks, hml, hown, hts, hE, hJ, hK⟩ := C0
  intro σ l1 l2 l3 l4 l5 l6 l7 s0  h H locs hP hS ls hl
  unfold m_X12_look_97 at h
  refine lv_istore (lv' := [(8, .int s0), (0, .ref (za Z 0)), (1, .int l1), (2, .int l2), (3, .int l3), (4, .int l4), (5, .int l5), (6, .int l6), (7, .int l7)]) hx hb dX12_look_97 hl (by decide) rfl (fun ls hl => ?_)
  refine lv_iload_n hx hb dX12_look_99 rfl (lv_at hl 3 rfl) ?_
  refine lv_iconst (v := 3) hx hb dX12_look_100 (by decide) ?_
  refine lv_icmp_ge (tgt := 118) hx hb dX12_look_101 (by decide) (fun q19 => ?_) (fun q19 => ?_)
  · have h := if_p h q19
    exact kb_X12_look_118 Z    C  hc44 σ l1 l2 l3 l4 l5 l6 l7 s0 h H locs hP hS ls (lv_sub hl [1, 2, 3, 4, 5, 6, 7, 8, 0] rfl)
  · have h := if_n h q19
    refine lv_iload hx hb dX12_look_104 (lv_at hl 7 rfl) ?_
    refine lv_if_lt (tgt := 114) hx hb dX12_look_106 (by decide) (fun q20 => ?_) (fun q20 => ?_)
    · have h := if_p h q20
      exact kb_X12_look_114 Z    C  hc44 σ l1 l2 l3 l4 l5 l6 l7 s0 h H locs hP hS ls (lv_sub hl [1, 2, 3, 4, 5, 6, 7, 8, 0] rfl)
    · have h := if_n h q20
      refine lv_iload hx hb dX12_look_109 (lv_at hl 0 rfl) ?_
      refine lv_if_ge (tgt := 118) hx hb dX12_look_111 (by decide) (fun q21 => ?_) (fun q21 => ?_)
      · have h := if_p h q21
        exact kb_X12_look_118 Z    C  hc44 σ l1 l2 l3 l4 l5 l6 l7 s0 h H locs hP hS ls (lv_sub hl [1, 2, 3, 4, 5, 6, 7, 8, 0] rfl)
      · have h := if_n h q21
        exact kb_X12_look_114 Z    C  hc44 σ l1 l2 l3 l4 l5 l6 l7 s0 h H locs hP hS ls (lv_sub hl [1, 2, 3, 4, 5, 6, 7, 8, 0] rfl)
def m_X12_look_44_s    (c44 : SG → Int32 → Int32 → Int32 → Int32 → Int32 → Option (Unit × SG)) (σ : SG) (l1 : Int32) (l2 : Int32) (l3 : Int32) (l4 : Int32) (l5 : Int32) : Option (Unit × SG) :=
  gB (inB l1 9) (if (σ.1 3 l1.toNatClampNeg) ≤ l5 then (some ((), σ)) else (gB (inB (l3 + l5) 216) (lS (σ.1 1 (l3 + l5).toNatClampNeg) (fun v12 => gB (inB (l3 + l5) 216) (lS (σ.1 2 (l3 + l5).toNatClampNeg) (fun v15 => if l4 = 0 then (m_X12_look_97   c44 σ l1 l2 l3 l4 l5 v12 v15 0) else (gB (inB ((l3 + l5) - 1) 216) (m_X12_look_97   c44 σ l1 l2 l3 l4 l5 v12 v15 (σ.1 1 ((l3 + l5) - 1).toNatClampNeg)))))))))
def m_X12_look_44    : Nat → SG → Int32 → Int32 → Int32 → Int32 → Int32 → Option (Unit × SG)
  | 0, _, _, _, _, _, _ => none
  | n + 1, σ, l1, l2, l3, l4, l5 => m_X12_look_44_s    (m_X12_look_44    n) σ l1 l2 l3 l4 l5
set_option maxHeartbeats 4000000 in
set_option maxRecDepth 100000 in
theorem kb_X12_look_44 {p : Program} {l : Launch} {e : Env} {s : State} {m : MethodId} {args : Array Value} {below : List Frame} {meth : Method} {c : Code} {E : EF} (Z : ZT)    (C : cy p s m args meth c cX12_look none 11 RX12 wsX12_look E (zD Z) vwCl 24 (za Z) (tysM Z)) {res : Unit × SG}   : ∀ (n : Nat) (σ : SG) (l1 : Int32) (l2 : Int32) (l3 : Int32) (l4 : Int32) (l5 : Int32) , m_X12_look_44    n σ l1 l2 l3 l4 l5 = some res → ∀ (H : Heap) (locs : List Loc), ws_P (zD Z) vwCl 24 (za Z) (tM Z) σ H → va_S (ws_A 24 (za Z)) s.heap H locs → ∀ (ls : Array Slot), lv_has ls 11 [(0, .ref (za Z 0)), (1, .int l1), (2, .int l2), (3, .int l3), (4, .int l4), (5, .int l5)] → W p l e rm_X12_look s m args below meth c H locs 0 0 (MQ below (xQv E (zD Z) vwCl 24 (za Z) (tM Z) (tysM Z) res) args s 0 0 (ws_A 24 (za Z))) (F0 m 44 ls []) := by
  have C0 := C
  obtain ⟨hx, hb, hr, hlocks, hml, hown, hts, hE, hJ, hK⟩ := C0
  intro n
  induction n with
  | zero =>
    intro σ l1 l2 l3 l4 l5  h
    cases h
  | succ n ih =>
    intro σ l1 l2 l3 l4 l5  h H locs hP hS ls hl
    have hc44 : ∀ (σ : SG) (l1 : Int32) (l2 : Int32) (l3 : Int32) (l4 : Int32) (l5 : Int32) , m_X12_look_44    n σ l1 l2 l3 l4 l5 = some res → ∀ (H : Heap) (locs : List Loc), ws_P (zD Z) vwCl 24 (za Z) (tM Z) σ H → va_S (ws_A 24 (za Z)) s.heap H locs → ∀ (ls : Array Slot), lv_has ls 11 [(0, .ref (za Z 0)), (1, .int l1), (2, .int l2), (3, .int l3), (4, .int l4), (5, .int l5)] → W p l e rm_X12_look s m args below meth c H locs 0 0 (MQ below (xQv E (zD Z) vwCl 24 (za Z) (tM Z) (tysM Z) res) args s 0 0 (ws_A 24 (za Z))) (F0 m 44 ls []) := ih
    have h : m_X12_look_44_s    (m_X12_look_44    n) σ l1 l2 l3 l4 l5 = some res := h
    unfold m_X12_look_44_s at h
    refine lv_iload hx hb dX12_look_44 (lv_at hl 5 rfl) ?_
    refine lv_aload_n hx hb dX12_look_46 rfl (lv_at hl 0 rfl) ?_
    refine wr_get (C := RX12) (T := TX12) (N := 41) hx hb hts (in_X12_look_X12) hown hK hP (k := 0) (by decide) ((tM_0 Z) _ _ _) rfl 3 (by decide) (hts (.fieldLink RX12 18 "TuneSearchModel" "size" "[I") (by decide +kernel)) (fun _ h9 => h9) rfl dX12_look_47 ?_
    refine lv_iload_n hx hb dX12_look_50 rfl (lv_at hl 1 rfl) ?_
    obtain ⟨b9, h⟩ := gB_e h
    refine wr_iald hx hb hK hP (k := 3) (by decide) 0 ((tM_3 Z) _ _ _) rfl b9 dX12_look_51 ?_
    refine lv_icmp_ge (tgt := 224) hx hb dX12_look_52 (by decide) (fun q10 => ?_) (fun q10 => ?_)
    · have h := if_p h q10
      exact xr_vret hx hb hr hlocks hE hJ hK hP hS h dX12_look_224
    · have h := if_n h q10
      refine lv_aload_n hx hb dX12_look_55 rfl (lv_at hl 0 rfl) ?_
      refine wr_get (C := RX12) (T := TX12) (N := 41) hx hb hts (in_X12_look_X12) hown hK hP (k := 0) (by decide) ((tM_0 Z) _ _ _) rfl 1 (by decide) (hts (.fieldLink RX12 11 "TuneSearchModel" "pitch" "[I") (by decide +kernel)) (fun _ h9 => h9) rfl dX12_look_56 ?_
      refine lv_iload_n hx hb dX12_look_59 rfl (lv_at hl 3 rfl) ?_
      refine lv_iload hx hb dX12_look_60 (lv_at hl 5 rfl) ?_
      refine lv_iadd hx hb dX12_look_62 ?_
      obtain ⟨b11, h⟩ := gB_e h
      refine wr_iald hx hb hK hP (k := 1) (by decide) 0 ((tM_1 Z) _ _ _) rfl b11 dX12_look_63 ?_
      refine lv_topi (fun v12 e13 => ?_)
      have h := lS_u h e13
      refine lv_istore (lv' := [(6, .int v12), (0, .ref (za Z 0)), (1, .int l1), (2, .int l2), (3, .int l3), (4, .int l4), (5, .int l5)]) hx hb dX12_look_64 hl (by decide) rfl (fun ls hl => ?_)
      refine lv_aload_n hx hb dX12_look_66 rfl (lv_at hl 1 rfl) ?_
      refine wr_get (C := RX12) (T := TX12) (N := 41) hx hb hts (in_X12_look_X12) hown hK hP (k := 0) (by decide) ((tM_0 Z) _ _ _) rfl 2 (by decide) (hts (.fieldLink RX12 15 "TuneSearchModel" "length" "[I") (by decide +kernel)) (fun _ h9 => h9) rfl dX12_look_67 ?_
      refine lv_iload_n hx hb dX12_look_70 rfl (lv_at hl 4 rfl) ?_
      refine lv_iload hx hb dX12_look_71 (lv_at hl 6 rfl) ?_
      refine lv_iadd hx hb dX12_look_73 ?_
      obtain ⟨b14, h⟩ := gB_e h
      refine wr_iald hx hb hK hP (k := 2) (by decide) 0 ((tM_2 Z) _ _ _) rfl b14 dX12_look_74 ?_
      refine lv_topi (fun v15 e16 => ?_)
      have h := lS_u h e16
      refine lv_istore (lv' := [(7, .int v15), (6, .int v12), (0, .ref (za Z 0)), (1, .int l1), (2, .int l2), (3, .int l3), (4, .int l4), (5, .int l5)]) hx hb dX12_look_75 hl (by decide) rfl (fun ls hl => ?_)
      refine lv_iload hx hb dX12_look_77 (lv_at hl 6 rfl) ?_
      refine lv_if_eq (tgt := 96) hx hb dX12_look_79 (by decide) (fun q17 => ?_) (fun q17 => ?_)
      · have h := if_p h q17
        refine lv_iconst (v := 0) hx hb dX12_look_96 (by decide) ?_
        exact kb_X12_look_97 Z    C  hc44 σ l1 l2 l3 l4 l5 v12 v15 0 h H locs hP hS ls (lv_sub hl [2, 3, 4, 5, 6, 7, 1, 0] rfl)
      · have h := if_n h q17
        refine lv_aload_n hx hb dX12_look_82 rfl (lv_at hl 2 rfl) ?_
        refine wr_get (C := RX12) (T := TX12) (N := 41) hx hb hts (in_X12_look_X12) hown hK hP (k := 0) (by decide) ((tM_0 Z) _ _ _) rfl 1 (by decide) (hts (.fieldLink RX12 11 "TuneSearchModel" "pitch" "[I") (by decide +kernel)) (fun _ h9 => h9) rfl dX12_look_83 ?_
        refine lv_iload_n hx hb dX12_look_86 rfl (lv_at hl 5 rfl) ?_
        refine lv_iload hx hb dX12_look_87 (lv_at hl 7 rfl) ?_
        refine lv_iadd hx hb dX12_look_89 ?_
        refine lv_iconst (v := 1) hx hb dX12_look_90 (by decide) ?_
        refine lv_isub hx hb dX12_look_91 ?_
        obtain ⟨b18, h⟩ := gB_e h
        refine wr_iald hx hb hK hP (k := 1) (by decide) 0 ((tM_1 Z) _ _ _) rfl b18 dX12_look_92 ?_
        refine lv_goto (tgt := 97) hx hb dX12_look_93 (by decide) ?_
        exact kb_X12_look_97 Z    C  hc44 σ l1 l2 l3 l4 l5 v12 v15 (σ.1 1 ((l3 + l5) - 1).toNatClampNeg) h H locs hP hS ls (lv_sub hl [2, 3, 4, 5, 6, 7, 1, 0] rfl)
def m_X12_look_42    (σ : SG) (l1 : Int32) (l2 : Int32) (l3 : Int32) (l4 : Int32) (s0 : Int32) : Option (Unit × SG) :=
  m_X12_look_44    FV σ l1 l2 l3 l4 s0
set_option maxHeartbeats 4000000 in
set_option maxRecDepth 100000 in
theorem kb_X12_look_42 {p : Program} {l : Launch} {e : Env} {s : State} {m : MethodId} {args : Array Value} {below : List Frame} {meth : Method} {c : Code} {E : EF} (Z : ZT)    (C : cy p s m args meth c cX12_look none 11 RX12 wsX12_look E (zD Z) vwCl 24 (za Z) (tysM Z)) {res : Unit × SG}   : ∀ (σ : SG) (l1 : Int32) (l2 : Int32) (l3 : Int32) (l4 : Int32) (s0 : Int32) , m_X12_look_42    σ l1 l2 l3 l4 s0 = some res → ∀ (H : Heap) (locs : List Loc), ws_P (zD Z) vwCl 24 (za Z) (tM Z) σ H → va_S (ws_A 24 (za Z)) s.heap H locs → ∀ (ls : Array Slot), lv_has ls 11 [(0, .ref (za Z 0)), (1, .int l1), (2, .int l2), (3, .int l3), (4, .int l4)] → W p l e rm_X12_look s m args below meth c H locs 0 0 (MQ below (xQv E (zD Z) vwCl 24 (za Z) (tM Z) (tysM Z) res) args s 0 0 (ws_A 24 (za Z))) (F0 m 42 ls [.int s0]) := by
  have C0 := C
  obtain ⟨hx, hb, hr, hlocks, hml, hown, hts, hE, hJ, hK⟩ := C0
  intro σ l1 l2 l3 l4 s0  h H locs hP hS ls hl
  unfold m_X12_look_42 at h
  refine lv_istore (lv' := [(5, .int s0), (0, .ref (za Z 0)), (1, .int l1), (2, .int l2), (3, .int l3), (4, .int l4)]) hx hb dX12_look_42 hl (by decide) rfl (fun ls hl => ?_)
  exact kb_X12_look_44 Z    C   FV σ l1 l2 l3 l4 s0 h H locs hP hS ls (lv_sub hl [1, 2, 3, 4, 5, 0] rfl)
def m_X12_look_25    (σ : SG) (l1 : Int32) (l2 : Int32) (l3 : Int32) (s0 : Int32) : Option (Unit × SG) :=
  lS (sI σ 0 23 0) (fun σ6 => if s0 = 0 then (m_X12_look_42    σ6 l1 l2 l3 s0 0) else (m_X12_look_42    σ6 l1 l2 l3 s0 1))
set_option maxHeartbeats 4000000 in
set_option maxRecDepth 100000 in
theorem kb_X12_look_25 {p : Program} {l : Launch} {e : Env} {s : State} {m : MethodId} {args : Array Value} {below : List Frame} {meth : Method} {c : Code} {E : EF} (Z : ZT)    (C : cy p s m args meth c cX12_look none 11 RX12 wsX12_look E (zD Z) vwCl 24 (za Z) (tysM Z)) {res : Unit × SG}   : ∀ (σ : SG) (l1 : Int32) (l2 : Int32) (l3 : Int32) (s0 : Int32) , m_X12_look_25    σ l1 l2 l3 s0 = some res → ∀ (H : Heap) (locs : List Loc), ws_P (zD Z) vwCl 24 (za Z) (tM Z) σ H → va_S (ws_A 24 (za Z)) s.heap H locs → ∀ (ls : Array Slot), lv_has ls 11 [(0, .ref (za Z 0)), (1, .int l1), (2, .int l2), (3, .int l3)] → W p l e rm_X12_look s m args below meth c H locs 0 0 (MQ below (xQv E (zD Z) vwCl 24 (za Z) (tM Z) (tysM Z) res) args s 0 0 (ws_A 24 (za Z))) (F0 m 25 ls [.int s0]) := by
  have C0 := C
  obtain ⟨hx, hb, hr, hlocks, hml, hown, hts, hE, hJ, hK⟩ := C0
  intro σ l1 l2 l3 s0  h H locs hP hS ls hl
  unfold m_X12_look_25 at h
  refine lv_istore (lv' := [(4, .int s0), (0, .ref (za Z 0)), (1, .int l1), (2, .int l2), (3, .int l3)]) hx hb dX12_look_25 hl (by decide) rfl (fun ls hl => ?_)
  refine lv_aload_n hx hb dX12_look_27 rfl (lv_at hl 1 rfl) ?_
  refine lv_iconst (v := 0) hx hb dX12_look_28 (by decide) ?_
  refine wr_put (C := RX12) (T := TX12) (N := 41) (σ' := sI σ 0 23 0) (ty := .int) hx hb hts (in_X12_look_X12) tyX12 tyX12_ok nmX12 hown hK hP hJ hS (k := 0) (by decide) ((tM_0 Z) _ _ _) rfl 23 (by decide) (hts (.fieldLink RX12 191 "TuneSearchModel" "signCount" "I") (by decide +kernel)) (fun _ h9 => h9) rfl (by decide +kernel) rfl rfl (Nat.le_of_ble_eq_true rfl) (ws_pI (tM_0 Z) rfl) dX12_look_29 (fun H locs hP hS => ?_)
  obtain ⟨σ6, e7, h⟩ := lS_e h
  rw [← e7] at hP
  refine lv_iload hx hb dX12_look_32 (lv_at hl 0 rfl) ?_
  refine lv_if_eq (tgt := 41) hx hb dX12_look_34 (by decide) (fun q8 => ?_) (fun q8 => ?_)
  · have h := if_p h q8
    refine lv_iconst (v := 0) hx hb dX12_look_41 (by decide) ?_
    exact kb_X12_look_42 Z    C   σ6 l1 l2 l3 s0 0 h H locs hP hS ls (lv_sub hl [1, 2, 3, 4, 0] rfl)
  · have h := if_n h q8
    refine lv_iconst (v := 1) hx hb dX12_look_37 (by decide) ?_
    refine lv_goto (tgt := 42) hx hb dX12_look_38 (by decide) ?_
    exact kb_X12_look_42 Z    C   σ6 l1 l2 l3 s0 1 h H locs hP hS ls (lv_sub hl [1, 2, 3, 4, 0] rfl)
def m_X12_look_20    (σ : SG) (l1 : Int32) (l2 : Int32) (l3 : Int32) : Option (Unit × SG) :=
  m_X12_look_25    σ l1 l2 l3 1
set_option maxHeartbeats 4000000 in
set_option maxRecDepth 100000 in
theorem kb_X12_look_20 {p : Program} {l : Launch} {e : Env} {s : State} {m : MethodId} {args : Array Value} {below : List Frame} {meth : Method} {c : Code} {E : EF} (Z : ZT)    (C : cy p s m args meth c cX12_look none 11 RX12 wsX12_look E (zD Z) vwCl 24 (za Z) (tysM Z)) {res : Unit × SG}   : ∀ (σ : SG) (l1 : Int32) (l2 : Int32) (l3 : Int32) , m_X12_look_20    σ l1 l2 l3 = some res → ∀ (H : Heap) (locs : List Loc), ws_P (zD Z) vwCl 24 (za Z) (tM Z) σ H → va_S (ws_A 24 (za Z)) s.heap H locs → ∀ (ls : Array Slot), lv_has ls 11 [(0, .ref (za Z 0)), (1, .int l1), (2, .int l2), (3, .int l3)] → W p l e rm_X12_look s m args below meth c H locs 0 0 (MQ below (xQv E (zD Z) vwCl 24 (za Z) (tM Z) (tysM Z) res) args s 0 0 (ws_A 24 (za Z))) (F0 m 20 ls []) := by
  have C0 := C
  obtain ⟨hx, hb, hr, hlocks, hml, hown, hts, hE, hJ, hK⟩ := C0
  intro σ l1 l2 l3  h H locs hP hS ls hl
  unfold m_X12_look_20 at h
  refine lv_iconst (v := 1) hx hb dX12_look_20 (by decide) ?_
  refine lv_goto (tgt := 25) hx hb dX12_look_21 (by decide) ?_
  exact kb_X12_look_25 Z    C   σ l1 l2 l3 1 h H locs hP hS ls (lv_sub hl [0, 1, 2, 3] rfl)
def m_X12_look_0    (σ : SG) (p0 : Int32) (p1 : Int32) : Option (Unit × SG) :=
  lS (24 * p0) (fun v1 => if p1 = 1 then (m_X12_look_20    σ p0 p1 v1) else (if p1 = 2 then (m_X12_look_20    σ p0 p1 v1) else (if ¬ p1 = 4 then (m_X12_look_25    σ p0 p1 v1 0) else (m_X12_look_20    σ p0 p1 v1))))
set_option maxHeartbeats 4000000 in
set_option maxRecDepth 100000 in
theorem kb_X12_look_0 {p : Program} {l : Launch} {e : Env} {s : State} {m : MethodId} {args : Array Value} {below : List Frame} {meth : Method} {c : Code} {E : EF} (Z : ZT)    (C : cy p s m args meth c cX12_look none 11 RX12 wsX12_look E (zD Z) vwCl 24 (za Z) (tysM Z)) {res : Unit × SG}   : ∀ (σ : SG) (p0 : Int32) (p1 : Int32) , m_X12_look_0    σ p0 p1 = some res → ∀ (H : Heap) (locs : List Loc), ws_P (zD Z) vwCl 24 (za Z) (tM Z) σ H → va_S (ws_A 24 (za Z)) s.heap H locs → ∀ (ls : Array Slot), lv_has ls 11 [(0, .ref (za Z 0)), (1, .int p0), (2, .int p1)] → W p l e rm_X12_look s m args below meth c H locs 0 0 (MQ below (xQv E (zD Z) vwCl 24 (za Z) (tM Z) (tysM Z) res) args s 0 0 (ws_A 24 (za Z))) (F0 m 0 ls []) := by
  have C0 := C
  obtain ⟨hx, hb, hr, hlocks, hml, hown, hts, hE, hJ, hK⟩ := C0
  intro σ p0 p1  h H locs hP hS ls hl
  unfold m_X12_look_0 at h
  refine lv_bipush (v := 24) hx hb dX12_look_0 (by decide) ?_
  refine lv_iload_n hx hb dX12_look_2 rfl (lv_at hl 1 rfl) ?_
  refine lv_imul hx hb dX12_look_3 ?_
  refine lv_topi (fun v1 e2 => ?_)
  have h := lS_u h e2
  refine lv_istore_n (lv' := [(3, .int v1), (0, .ref (za Z 0)), (1, .int p0), (2, .int p1)]) hx hb dX12_look_4 rfl hl (by decide) rfl (fun ls hl => ?_)
  refine lv_iload_n hx hb dX12_look_5 rfl (lv_at hl 3 rfl) ?_
  refine lv_iconst (v := 1) hx hb dX12_look_6 (by decide) ?_
  refine lv_icmp_eq (tgt := 20) hx hb dX12_look_7 (by decide) (fun q3 => ?_) (fun q3 => ?_)
  · have h := if_p h q3
    exact kb_X12_look_20 Z    C   σ p0 p1 v1 h H locs hP hS ls (lv_sub hl [1, 2, 3, 0] rfl)
  · have h := if_n h q3
    refine lv_iload_n hx hb dX12_look_10 rfl (lv_at hl 3 rfl) ?_
    refine lv_iconst (v := 2) hx hb dX12_look_11 (by decide) ?_
    refine lv_icmp_eq (tgt := 20) hx hb dX12_look_12 (by decide) (fun q4 => ?_) (fun q4 => ?_)
    · have h := if_p h q4
      exact kb_X12_look_20 Z    C   σ p0 p1 v1 h H locs hP hS ls (lv_sub hl [1, 2, 3, 0] rfl)
    · have h := if_n h q4
      refine lv_iload_n hx hb dX12_look_15 rfl (lv_at hl 3 rfl) ?_
      refine lv_iconst (v := 4) hx hb dX12_look_16 (by decide) ?_
      refine lv_icmp_ne (tgt := 24) hx hb dX12_look_17 (by decide) (fun q5 => ?_) (fun q5 => ?_)
      · have h := if_p h q5
        refine lv_iconst (v := 0) hx hb dX12_look_24 (by decide) ?_
        exact kb_X12_look_25 Z    C   σ p0 p1 v1 0 h H locs hP hS ls (lv_sub hl [1, 2, 3, 0] rfl)
      · have h := if_n h (fun z => z q5)
        exact kb_X12_look_20 Z    C   σ p0 p1 v1 h H locs hP hS ls (lv_sub hl [1, 2, 3, 0] rfl)
def m_X12_look   (σ : SG) (p0 : Int32) (p1 : Int32) : Option (Unit × SG) := m_X12_look_0   σ p0 p1
set_option maxHeartbeats 4000000 in
set_option maxRecDepth 100000 in
theorem k_X12_look (l : Launch) {E : EF} (Z : ZT)    (σ : SG) (p0 : Int32) (p1 : Int32) {res : Unit × SG} (h : m_X12_look   σ p0 p1 = some res) : Met l yX12_look wsX12_look rm_X12_look (va_Pc [.ref (za Z 0), .int p0, .int p1] (wx E (zD Z) vwCl 24 (za Z) (tM Z) (tysM Z) σ)) (xQv E (zD Z) vwCl 24 (za Z) (tM Z) (tysM Z) res) 0 0 (ws_A 24 (za Z)) := by
  refine Met.ofW (cc := cX12_look) (maxL := 11) (ret := none) (by decide) rfl ?_
  intro p e s m args below meth c s₁ B hml hv
  obtain ⟨rfl, hE, hJ, hP, hK⟩ := hv
  have hl := lv_entry ([.ref (za Z 0), .int p0, .int p1]) (n := 11) (Nat.le_of_ble_eq_true rfl)
  rw [lg_entry_eq]
  generalize (lg_sl ([.ref (za Z 0), .int p0, .int p1]) ++ List.replicate (11 - (lg_sl ([.ref (za Z 0), .int p0, .int p1])).length) Slot.unset).toArray = ls at hl ⊢
  exact kb_X12_look_0 Z    ⟨B.exec, B.bytes, B.returns, B.notSynchronized, hml, findClass_of_methodNamed B.named, atoms_spec (ws := wsX12_look) B.pre, hE, hJ, hK⟩ σ p0 p1 h s.heap [] hP va_S.rf ls hl
/-! java/lang/Integer.numberOfLeadingZeros(I)I -/
abbrev rm_J6_numberOfLeadingZeros_0f7a4 : Room := { frames := 0, cells := 0, slots := 0, locals := 0 }
def m_J6_numberOfLeadingZeros_0f7a4_73    (σ : SG) (l0 : Int32) (l1 : Int32) : Option (Int32 × SG) :=
  some (l1 - ((l0.toUInt32 >>> ((1 : Int32).toUInt32 &&& Int32.toUInt32 31)).toInt32), σ)
set_option maxHeartbeats 4000000 in
set_option maxRecDepth 100000 in
theorem kb_J6_numberOfLeadingZeros_0f7a4_73 {p : Program} {l : Launch} {e : Env} {s : State} {m : MethodId} {args : Array Value} {below : List Frame} {meth : Method} {c : Code} {E : EF} (Z : ZT)    (C : cy p s m args meth c cJ6_numberOfLeadingZeros_0f7a4 (some .int) 2 RJ6 wsJ6_numberOfLeadingZeros_0f7a4 E (zD Z) vwCl 24 (za Z) (tysM Z)) {res : Int32 × SG}   : ∀ (σ : SG) (l0 : Int32) (l1 : Int32) , m_J6_numberOfLeadingZeros_0f7a4_73    σ l0 l1 = some res → ∀ (H : Heap) (locs : List Loc), ws_P (zD Z) vwCl 24 (za Z) (tM Z) σ H → va_S (ws_A 24 (za Z)) s.heap H locs → ∀ (ls : Array Slot), lv_has ls 2 [(0, .int l0), (1, .int l1)] → W p l e rm_J6_numberOfLeadingZeros_0f7a4 s m args below meth c H locs 0 0 (MQ below (xQi E (zD Z) vwCl 24 (za Z) (tM Z) (tysM Z) res) args s 0 0 (ws_A 24 (za Z))) (F0 m 73 ls []) := by
  have C0 := C
  obtain ⟨hx, hb, hr, hlocks, hml, hown, hts, hE, hJ, hK⟩ := C0
  intro σ l0 l1  h H locs hP hS ls hl
  unfold m_J6_numberOfLeadingZeros_0f7a4_73 at h
  refine lv_iload_n hx hb dJ6_numberOfLeadingZeros_0f7a4_73 rfl (lv_at hl 1 rfl) ?_
  refine lv_iload_n hx hb dJ6_numberOfLeadingZeros_0f7a4_74 rfl (lv_at hl 0 rfl) ?_
  refine lv_iconst (v := 1) hx hb dJ6_numberOfLeadingZeros_0f7a4_75 (by decide) ?_
  refine lv_iushr hx hb dJ6_numberOfLeadingZeros_0f7a4_76 rfl ?_
  refine lv_isub hx hb dJ6_numberOfLeadingZeros_0f7a4_77 ?_
  exact xr_iret hx hb hr hlocks hE hJ hK hP hS h dJ6_numberOfLeadingZeros_0f7a4_78
def m_J6_numberOfLeadingZeros_0f7a4_61    (σ : SG) (l0 : Int32) (l1 : Int32) : Option (Int32 × SG) :=
  if l0 < 4 then (m_J6_numberOfLeadingZeros_0f7a4_73    σ l0 l1) else (lS (l1 + (-2)) (fun v19 => lS ((l0.toUInt32 >>> ((2 : Int32).toUInt32 &&& Int32.toUInt32 31)).toInt32) (fun v21 => m_J6_numberOfLeadingZeros_0f7a4_73    σ v21 v19)))
set_option maxHeartbeats 4000000 in
set_option maxRecDepth 100000 in
theorem kb_J6_numberOfLeadingZeros_0f7a4_61 {p : Program} {l : Launch} {e : Env} {s : State} {m : MethodId} {args : Array Value} {below : List Frame} {meth : Method} {c : Code} {E : EF} (Z : ZT)    (C : cy p s m args meth c cJ6_numberOfLeadingZeros_0f7a4 (some .int) 2 RJ6 wsJ6_numberOfLeadingZeros_0f7a4 E (zD Z) vwCl 24 (za Z) (tysM Z)) {res : Int32 × SG}   : ∀ (σ : SG) (l0 : Int32) (l1 : Int32) , m_J6_numberOfLeadingZeros_0f7a4_61    σ l0 l1 = some res → ∀ (H : Heap) (locs : List Loc), ws_P (zD Z) vwCl 24 (za Z) (tM Z) σ H → va_S (ws_A 24 (za Z)) s.heap H locs → ∀ (ls : Array Slot), lv_has ls 2 [(0, .int l0), (1, .int l1)] → W p l e rm_J6_numberOfLeadingZeros_0f7a4 s m args below meth c H locs 0 0 (MQ below (xQi E (zD Z) vwCl 24 (za Z) (tM Z) (tysM Z) res) args s 0 0 (ws_A 24 (za Z))) (F0 m 61 ls []) := by
  have C0 := C
  obtain ⟨hx, hb, hr, hlocks, hml, hown, hts, hE, hJ, hK⟩ := C0
  intro σ l0 l1  h H locs hP hS ls hl
  unfold m_J6_numberOfLeadingZeros_0f7a4_61 at h
  refine lv_iload_n hx hb dJ6_numberOfLeadingZeros_0f7a4_61 rfl (lv_at hl 0 rfl) ?_
  refine lv_iconst (v := 4) hx hb dJ6_numberOfLeadingZeros_0f7a4_62 (by decide) ?_
  refine lv_icmp_lt (tgt := 73) hx hb dJ6_numberOfLeadingZeros_0f7a4_63 (by decide) (fun q18 => ?_) (fun q18 => ?_)
  · have h := if_p h q18
    exact kb_J6_numberOfLeadingZeros_0f7a4_73 Z    C   σ l0 l1 h H locs hP hS ls (lv_sub hl [0, 1] rfl)
  · have h := if_n h q18
    obtain ⟨v19, e20, h⟩ := lS_e h
    refine lv_iinc (v := v19) (lv' := [(1, .int v19), (0, .int l0)]) hx hb dJ6_numberOfLeadingZeros_0f7a4_66 hl (k := 1) rfl (by rw [e20]; rfl) (by decide) rfl (fun ls hl => ?_)
    refine lv_iload_n hx hb dJ6_numberOfLeadingZeros_0f7a4_69 rfl (lv_at hl 1 rfl) ?_
    refine lv_iconst (v := 2) hx hb dJ6_numberOfLeadingZeros_0f7a4_70 (by decide) ?_
    refine lv_iushr hx hb dJ6_numberOfLeadingZeros_0f7a4_71 rfl ?_
    refine lv_topi (fun v21 e22 => ?_)
    have h := lS_u h e22
    refine lv_istore_n (lv' := [(0, .int v21), (1, .int v19)]) hx hb dJ6_numberOfLeadingZeros_0f7a4_72 rfl hl (by decide) rfl (fun ls hl => ?_)
    exact kb_J6_numberOfLeadingZeros_0f7a4_73 Z    C   σ v21 v19 h H locs hP hS ls (lv_sub hl [0, 1] rfl)
def m_J6_numberOfLeadingZeros_0f7a4_48    (σ : SG) (l0 : Int32) (l1 : Int32) : Option (Int32 × SG) :=
  if l0 < 16 then (m_J6_numberOfLeadingZeros_0f7a4_61    σ l0 l1) else (lS (l1 + (-4)) (fun v14 => lS ((l0.toUInt32 >>> ((4 : Int32).toUInt32 &&& Int32.toUInt32 31)).toInt32) (fun v16 => m_J6_numberOfLeadingZeros_0f7a4_61    σ v16 v14)))
set_option maxHeartbeats 4000000 in
set_option maxRecDepth 100000 in
theorem kb_J6_numberOfLeadingZeros_0f7a4_48 {p : Program} {l : Launch} {e : Env} {s : State} {m : MethodId} {args : Array Value} {below : List Frame} {meth : Method} {c : Code} {E : EF} (Z : ZT)    (C : cy p s m args meth c cJ6_numberOfLeadingZeros_0f7a4 (some .int) 2 RJ6 wsJ6_numberOfLeadingZeros_0f7a4 E (zD Z) vwCl 24 (za Z) (tysM Z)) {res : Int32 × SG}   : ∀ (σ : SG) (l0 : Int32) (l1 : Int32) , m_J6_numberOfLeadingZeros_0f7a4_48    σ l0 l1 = some res → ∀ (H : Heap) (locs : List Loc), ws_P (zD Z) vwCl 24 (za Z) (tM Z) σ H → va_S (ws_A 24 (za Z)) s.heap H locs → ∀ (ls : Array Slot), lv_has ls 2 [(0, .int l0), (1, .int l1)] → W p l e rm_J6_numberOfLeadingZeros_0f7a4 s m args below meth c H locs 0 0 (MQ below (xQi E (zD Z) vwCl 24 (za Z) (tM Z) (tysM Z) res) args s 0 0 (ws_A 24 (za Z))) (F0 m 48 ls []) := by
  have C0 := C
  obtain ⟨hx, hb, hr, hlocks, hml, hown, hts, hE, hJ, hK⟩ := C0
  intro σ l0 l1  h H locs hP hS ls hl
  unfold m_J6_numberOfLeadingZeros_0f7a4_48 at h
  refine lv_iload_n hx hb dJ6_numberOfLeadingZeros_0f7a4_48 rfl (lv_at hl 0 rfl) ?_
  refine lv_bipush (v := 16) hx hb dJ6_numberOfLeadingZeros_0f7a4_49 (by decide) ?_
  refine lv_icmp_lt (tgt := 61) hx hb dJ6_numberOfLeadingZeros_0f7a4_51 (by decide) (fun q13 => ?_) (fun q13 => ?_)
  · have h := if_p h q13
    exact kb_J6_numberOfLeadingZeros_0f7a4_61 Z    C   σ l0 l1 h H locs hP hS ls (lv_sub hl [0, 1] rfl)
  · have h := if_n h q13
    obtain ⟨v14, e15, h⟩ := lS_e h
    refine lv_iinc (v := v14) (lv' := [(1, .int v14), (0, .int l0)]) hx hb dJ6_numberOfLeadingZeros_0f7a4_54 hl (k := 1) rfl (by rw [e15]; rfl) (by decide) rfl (fun ls hl => ?_)
    refine lv_iload_n hx hb dJ6_numberOfLeadingZeros_0f7a4_57 rfl (lv_at hl 1 rfl) ?_
    refine lv_iconst (v := 4) hx hb dJ6_numberOfLeadingZeros_0f7a4_58 (by decide) ?_
    refine lv_iushr hx hb dJ6_numberOfLeadingZeros_0f7a4_59 rfl ?_
    refine lv_topi (fun v16 e17 => ?_)
    have h := lS_u h e17
    refine lv_istore_n (lv' := [(0, .int v16), (1, .int v14)]) hx hb dJ6_numberOfLeadingZeros_0f7a4_60 rfl hl (by decide) rfl (fun ls hl => ?_)
    exact kb_J6_numberOfLeadingZeros_0f7a4_61 Z    C   σ v16 v14 h H locs hP hS ls (lv_sub hl [0, 1] rfl)
def m_J6_numberOfLeadingZeros_0f7a4_33    (σ : SG) (l0 : Int32) (l1 : Int32) : Option (Int32 × SG) :=
  if l0 < 256 then (m_J6_numberOfLeadingZeros_0f7a4_48    σ l0 l1) else (lS (l1 + (-8)) (fun v9 => lS ((l0.toUInt32 >>> ((8 : Int32).toUInt32 &&& Int32.toUInt32 31)).toInt32) (fun v11 => m_J6_numberOfLeadingZeros_0f7a4_48    σ v11 v9)))
set_option maxHeartbeats 4000000 in
set_option maxRecDepth 100000 in
theorem kb_J6_numberOfLeadingZeros_0f7a4_33 {p : Program} {l : Launch} {e : Env} {s : State} {m : MethodId} {args : Array Value} {below : List Frame} {meth : Method} {c : Code} {E : EF} (Z : ZT)    (C : cy p s m args meth c cJ6_numberOfLeadingZeros_0f7a4 (some .int) 2 RJ6 wsJ6_numberOfLeadingZeros_0f7a4 E (zD Z) vwCl 24 (za Z) (tysM Z)) {res : Int32 × SG}   : ∀ (σ : SG) (l0 : Int32) (l1 : Int32) , m_J6_numberOfLeadingZeros_0f7a4_33    σ l0 l1 = some res → ∀ (H : Heap) (locs : List Loc), ws_P (zD Z) vwCl 24 (za Z) (tM Z) σ H → va_S (ws_A 24 (za Z)) s.heap H locs → ∀ (ls : Array Slot), lv_has ls 2 [(0, .int l0), (1, .int l1)] → W p l e rm_J6_numberOfLeadingZeros_0f7a4 s m args below meth c H locs 0 0 (MQ below (xQi E (zD Z) vwCl 24 (za Z) (tM Z) (tysM Z) res) args s 0 0 (ws_A 24 (za Z))) (F0 m 33 ls []) := by
  have C0 := C
  obtain ⟨hx, hb, hr, hlocks, hml, hown, hts, hE, hJ, hK⟩ := C0
  intro σ l0 l1  h H locs hP hS ls hl
  unfold m_J6_numberOfLeadingZeros_0f7a4_33 at h
  refine lv_iload_n hx hb dJ6_numberOfLeadingZeros_0f7a4_33 rfl (lv_at hl 0 rfl) ?_
  refine lv_sipush (v := 256) hx hb dJ6_numberOfLeadingZeros_0f7a4_34 (by decide) ?_
  refine lv_icmp_lt (tgt := 48) hx hb dJ6_numberOfLeadingZeros_0f7a4_37 (by decide) (fun q8 => ?_) (fun q8 => ?_)
  · have h := if_p h q8
    exact kb_J6_numberOfLeadingZeros_0f7a4_48 Z    C   σ l0 l1 h H locs hP hS ls (lv_sub hl [0, 1] rfl)
  · have h := if_n h q8
    obtain ⟨v9, e10, h⟩ := lS_e h
    refine lv_iinc (v := v9) (lv' := [(1, .int v9), (0, .int l0)]) hx hb dJ6_numberOfLeadingZeros_0f7a4_40 hl (k := 1) rfl (by rw [e10]; rfl) (by decide) rfl (fun ls hl => ?_)
    refine lv_iload_n hx hb dJ6_numberOfLeadingZeros_0f7a4_43 rfl (lv_at hl 1 rfl) ?_
    refine lv_bipush (v := 8) hx hb dJ6_numberOfLeadingZeros_0f7a4_44 (by decide) ?_
    refine lv_iushr hx hb dJ6_numberOfLeadingZeros_0f7a4_46 rfl ?_
    refine lv_topi (fun v11 e12 => ?_)
    have h := lS_u h e12
    refine lv_istore_n (lv' := [(0, .int v11), (1, .int v9)]) hx hb dJ6_numberOfLeadingZeros_0f7a4_47 rfl hl (by decide) rfl (fun ls hl => ?_)
    exact kb_J6_numberOfLeadingZeros_0f7a4_48 Z    C   σ v11 v9 h H locs hP hS ls (lv_sub hl [0, 1] rfl)
def m_J6_numberOfLeadingZeros_0f7a4_0    (σ : SG) (p0 : Int32) : Option (Int32 × SG) :=
  if 0 < p0 then (if p0 < 65536 then (m_J6_numberOfLeadingZeros_0f7a4_33    σ p0 31) else (lS (31 + (-16)) (fun v3 => lS ((p0.toUInt32 >>> ((16 : Int32).toUInt32 &&& Int32.toUInt32 31)).toInt32) (fun v5 => m_J6_numberOfLeadingZeros_0f7a4_33    σ v5 v3)))) else (if ¬ p0 = 0 then (some (0, σ)) else (some (32, σ)))
set_option maxHeartbeats 4000000 in
set_option maxRecDepth 100000 in
theorem kb_J6_numberOfLeadingZeros_0f7a4_0 {p : Program} {l : Launch} {e : Env} {s : State} {m : MethodId} {args : Array Value} {below : List Frame} {meth : Method} {c : Code} {E : EF} (Z : ZT)    (C : cy p s m args meth c cJ6_numberOfLeadingZeros_0f7a4 (some .int) 2 RJ6 wsJ6_numberOfLeadingZeros_0f7a4 E (zD Z) vwCl 24 (za Z) (tysM Z)) {res : Int32 × SG}   : ∀ (σ : SG) (p0 : Int32) , m_J6_numberOfLeadingZeros_0f7a4_0    σ p0 = some res → ∀ (H : Heap) (locs : List Loc), ws_P (zD Z) vwCl 24 (za Z) (tM Z) σ H → va_S (ws_A 24 (za Z)) s.heap H locs → ∀ (ls : Array Slot), lv_has ls 2 [(0, .int p0)] → W p l e rm_J6_numberOfLeadingZeros_0f7a4 s m args below meth c H locs 0 0 (MQ below (xQi E (zD Z) vwCl 24 (za Z) (tM Z) (tysM Z) res) args s 0 0 (ws_A 24 (za Z))) (F0 m 0 ls []) := by
  have C0 := C
  obtain ⟨hx, hb, hr, hlocks, hml, hown, hts, hE, hJ, hK⟩ := C0
  intro σ p0  h H locs hP hS ls hl
  unfold m_J6_numberOfLeadingZeros_0f7a4_0 at h
  refine lv_iload_n hx hb dJ6_numberOfLeadingZeros_0f7a4_0 rfl (lv_at hl 0 rfl) ?_
  refine lv_if_gt (tgt := 15) hx hb dJ6_numberOfLeadingZeros_0f7a4_1 (by decide) (fun q1 => ?_) (fun q1 => ?_)
  · have h := if_p h q1
    refine lv_bipush (v := 31) hx hb dJ6_numberOfLeadingZeros_0f7a4_15 (by decide) ?_
    refine lv_istore_n (lv' := [(1, .int 31), (0, .int p0)]) hx hb dJ6_numberOfLeadingZeros_0f7a4_17 rfl hl (by decide) rfl (fun ls hl => ?_)
    refine lv_iload_n hx hb dJ6_numberOfLeadingZeros_0f7a4_18 rfl (lv_at hl 1 rfl) ?_
    refine lv_ldcw (v := 65536) hx hb hown (hts (.constant RJ6 264 65536) (by decide +kernel)) dJ6_numberOfLeadingZeros_0f7a4_19 ?_
    refine lv_icmp_lt (tgt := 33) hx hb dJ6_numberOfLeadingZeros_0f7a4_22 (by decide) (fun q2 => ?_) (fun q2 => ?_)
    · have h := if_p h q2
      exact kb_J6_numberOfLeadingZeros_0f7a4_33 Z    C   σ p0 31 h H locs hP hS ls (lv_sub hl [1, 0] rfl)
    · have h := if_n h q2
      obtain ⟨v3, e4, h⟩ := lS_e h
      refine lv_iinc (v := v3) (lv' := [(1, .int v3), (0, .int p0)]) hx hb dJ6_numberOfLeadingZeros_0f7a4_25 hl (k := 0) rfl (by rw [e4]; rfl) (by decide) rfl (fun ls hl => ?_)
      refine lv_iload_n hx hb dJ6_numberOfLeadingZeros_0f7a4_28 rfl (lv_at hl 1 rfl) ?_
      refine lv_bipush (v := 16) hx hb dJ6_numberOfLeadingZeros_0f7a4_29 (by decide) ?_
      refine lv_iushr hx hb dJ6_numberOfLeadingZeros_0f7a4_31 rfl ?_
      refine lv_topi (fun v5 e6 => ?_)
      have h := lS_u h e6
      refine lv_istore_n (lv' := [(0, .int v5), (1, .int v3)]) hx hb dJ6_numberOfLeadingZeros_0f7a4_32 rfl hl (by decide) rfl (fun ls hl => ?_)
      exact kb_J6_numberOfLeadingZeros_0f7a4_33 Z    C   σ v5 v3 h H locs hP hS ls (lv_sub hl [0, 1] rfl)
  · have h := if_n h q1
    refine lv_iload_n hx hb dJ6_numberOfLeadingZeros_0f7a4_4 rfl (lv_at hl 0 rfl) ?_
    refine lv_if_ne (tgt := 13) hx hb dJ6_numberOfLeadingZeros_0f7a4_5 (by decide) (fun q7 => ?_) (fun q7 => ?_)
    · have h := if_p h q7
      refine lv_iconst (v := 0) hx hb dJ6_numberOfLeadingZeros_0f7a4_13 (by decide) ?_
      exact xr_iret hx hb hr hlocks hE hJ hK hP hS h dJ6_numberOfLeadingZeros_0f7a4_14
    · have h := if_n h (fun z => z q7)
      refine lv_bipush (v := 32) hx hb dJ6_numberOfLeadingZeros_0f7a4_8 (by decide) ?_
      refine lv_goto (tgt := 14) hx hb dJ6_numberOfLeadingZeros_0f7a4_10 (by decide) ?_
      exact xr_iret hx hb hr hlocks hE hJ hK hP hS h dJ6_numberOfLeadingZeros_0f7a4_14
def m_J6_numberOfLeadingZeros_0f7a4   (σ : SG) (p0 : Int32) : Option (Int32 × SG) := m_J6_numberOfLeadingZeros_0f7a4_0   σ p0
set_option maxHeartbeats 4000000 in
set_option maxRecDepth 100000 in
theorem k_J6_numberOfLeadingZeros_0f7a4 (l : Launch) {E : EF} (Z : ZT)    (σ : SG) (p0 : Int32) {res : Int32 × SG} (h : m_J6_numberOfLeadingZeros_0f7a4   σ p0 = some res) : Met l yJ6_numberOfLeadingZeros_0f7a4 wsJ6_numberOfLeadingZeros_0f7a4 rm_J6_numberOfLeadingZeros_0f7a4 (va_Pc [.int p0] (wx E (zD Z) vwCl 24 (za Z) (tM Z) (tysM Z) σ)) (xQi E (zD Z) vwCl 24 (za Z) (tM Z) (tysM Z) res) 0 0 (ws_A 24 (za Z)) := by
  refine Met.ofW (cc := cJ6_numberOfLeadingZeros_0f7a4) (maxL := 2) (ret := (some .int)) (by decide) rfl ?_
  intro p e s m args below meth c s₁ B hml hv
  obtain ⟨rfl, hE, hJ, hP, hK⟩ := hv
  have hl := lv_entry ([.int p0]) (n := 2) (Nat.le_of_ble_eq_true rfl)
  rw [lg_entry_eq]
  generalize (lg_sl ([.int p0]) ++ List.replicate (2 - (lg_sl ([.int p0])).length) Slot.unset).toArray = ls at hl ⊢
  exact kb_J6_numberOfLeadingZeros_0f7a4_0 Z    ⟨B.exec, B.bytes, B.returns, B.notSynchronized, hml, findClass_of_methodNamed B.named, atoms_spec (ws := wsJ6_numberOfLeadingZeros_0f7a4) B.pre, hE, hJ, hK⟩ σ p0 h s.heap [] hP va_S.rf ls hl
/-! TuneSearchModel.found(II)I -/
abbrev rm_X12_found : Room := { frames := 0, cells := 0, slots := 0, locals := 0 }
theorem in_X12_found_X12 : ∀ w ∈ wsX120, w ∈ wsX12_found := by decide +kernel
def m_X12_found_27    (σ : SG) (l1 : Int32) (l2 : Int32) (s0 : Int32) : Option (Int32 × SG) :=
  lS (sI σ 0 0 s0) (fun σ5 => if ¬ (σ5.1 0 0) = 0 then (some (0, σ5)) else (gB (inB ((5 * l1) + l2) 1000) (some (σ5.1 10 ((5 * l1) + l2).toNatClampNeg, σ5))))
set_option maxHeartbeats 4000000 in
set_option maxRecDepth 100000 in
theorem kb_X12_found_27 {p : Program} {l : Launch} {e : Env} {s : State} {m : MethodId} {args : Array Value} {below : List Frame} {meth : Method} {c : Code} {E : EF} (Z : ZT)    (C : cy p s m args meth c cX12_found (some .int) 3 RX12 wsX12_found E (zD Z) vwCl 24 (za Z) (tysM Z)) {res : Int32 × SG}   : ∀ (σ : SG) (l1 : Int32) (l2 : Int32) (s0 : Int32) , m_X12_found_27    σ l1 l2 s0 = some res → ∀ (H : Heap) (locs : List Loc), ws_P (zD Z) vwCl 24 (za Z) (tM Z) σ H → va_S (ws_A 24 (za Z)) s.heap H locs → ∀ (ls : Array Slot), lv_has ls 3 [(0, .ref (za Z 0)), (1, .int l1), (2, .int l2)] → W p l e rm_X12_found s m args below meth c H locs 0 0 (MQ below (xQi E (zD Z) vwCl 24 (za Z) (tM Z) (tysM Z) res) args s 0 0 (ws_A 24 (za Z))) (F0 m 27 ls [.int s0, .ref (za Z 0)]) := by
  have C0 := C
  obtain ⟨hx, hb, hr, hlocks, hml, hown, hts, hE, hJ, hK⟩ := C0
  intro σ l1 l2 s0  h H locs hP hS ls hl
  unfold m_X12_found_27 at h
  refine wr_put (C := RX12) (T := TX12) (N := 41) (σ' := sI σ 0 0 s0) (ty := .int) hx hb hts (in_X12_found_X12) tyX12 tyX12_ok nmX12 hown hK hP hJ hS (k := 0) (by decide) ((tM_0 Z) _ _ _) rfl 0 (by decide) (hts (.fieldLink RX12 87 "TuneSearchModel" "code" "I") (by decide +kernel)) (fun _ h9 => h9) rfl (by decide +kernel) rfl rfl (Nat.le_of_ble_eq_true rfl) (ws_pI (tM_0 Z) rfl) dX12_found_27 (fun H locs hP hS => ?_)
  obtain ⟨σ5, e6, h⟩ := lS_e h
  rw [← e6] at hP
  refine lv_aload_n hx hb dX12_found_30 rfl (lv_at hl 0 rfl) ?_
  refine wr_get (C := RX12) (T := TX12) (N := 41) hx hb hts (in_X12_found_X12) hown hK hP (k := 0) (by decide) ((tM_0 Z) _ _ _) rfl 0 (by decide) (hts (.fieldLink RX12 87 "TuneSearchModel" "code" "I") (by decide +kernel)) (fun _ h9 => h9) rfl dX12_found_31 ?_
  refine lv_if_ne (tgt := 50) hx hb dX12_found_34 (by decide) (fun q7 => ?_) (fun q7 => ?_)
  · have h := if_p h q7
    refine lv_iconst (v := 0) hx hb dX12_found_50 (by decide) ?_
    exact xr_iret hx hb hr hlocks hE hJ hK hP hS h dX12_found_51
  · have h := if_n h (fun z => z q7)
    refine lv_aload_n hx hb dX12_found_37 rfl (lv_at hl 0 rfl) ?_
    refine wr_get (C := RX12) (T := TX12) (N := 41) hx hb hts (in_X12_found_X12) hown hK hP (k := 0) (by decide) ((tM_0 Z) _ _ _) rfl 24 (by decide) (hts (.fieldLink RX12 44 "TuneSearchModel" "found" "[I") (by decide +kernel)) (fun _ h9 => h9) rfl dX12_found_38 ?_
    refine lv_iconst (v := 5) hx hb dX12_found_41 (by decide) ?_
    refine lv_iload_n hx hb dX12_found_42 rfl (lv_at hl 1 rfl) ?_
    refine lv_imul hx hb dX12_found_43 ?_
    refine lv_iload_n hx hb dX12_found_44 rfl (lv_at hl 2 rfl) ?_
    refine lv_iadd hx hb dX12_found_45 ?_
    obtain ⟨b8, h⟩ := gB_e h
    refine wr_iald hx hb hK hP (k := 10) (by decide) 0 ((tM_10 Z) _ _ _) rfl b8 dX12_found_46 ?_
    refine lv_goto (tgt := 51) hx hb dX12_found_47 (by decide) ?_
    exact xr_iret hx hb hr hlocks hE hJ hK hP hS h dX12_found_51
def m_X12_found_26    (σ : SG) (l1 : Int32) (l2 : Int32) : Option (Int32 × SG) :=
  m_X12_found_27    σ l1 l2 1
set_option maxHeartbeats 4000000 in
set_option maxRecDepth 100000 in
theorem kb_X12_found_26 {p : Program} {l : Launch} {e : Env} {s : State} {m : MethodId} {args : Array Value} {below : List Frame} {meth : Method} {c : Code} {E : EF} (Z : ZT)    (C : cy p s m args meth c cX12_found (some .int) 3 RX12 wsX12_found E (zD Z) vwCl 24 (za Z) (tysM Z)) {res : Int32 × SG}   : ∀ (σ : SG) (l1 : Int32) (l2 : Int32) , m_X12_found_26    σ l1 l2 = some res → ∀ (H : Heap) (locs : List Loc), ws_P (zD Z) vwCl 24 (za Z) (tM Z) σ H → va_S (ws_A 24 (za Z)) s.heap H locs → ∀ (ls : Array Slot), lv_has ls 3 [(0, .ref (za Z 0)), (1, .int l1), (2, .int l2)] → W p l e rm_X12_found s m args below meth c H locs 0 0 (MQ below (xQi E (zD Z) vwCl 24 (za Z) (tM Z) (tysM Z) res) args s 0 0 (ws_A 24 (za Z))) (F0 m 26 ls [.ref (za Z 0)]) := by
  have C0 := C
  obtain ⟨hx, hb, hr, hlocks, hml, hown, hts, hE, hJ, hK⟩ := C0
  intro σ l1 l2  h H locs hP hS ls hl
  unfold m_X12_found_26 at h
  refine lv_iconst (v := 1) hx hb dX12_found_26 (by decide) ?_
  exact kb_X12_found_27 Z    C   σ l1 l2 1 h H locs hP hS ls (lv_sub hl [0, 1, 2] rfl)
def m_X12_found_0    (σ : SG) (p0 : Int32) (p1 : Int32) : Option (Int32 × SG) :=
  if p0 < 0 then (m_X12_found_26    σ p0 p1) else (if (σ.1 0 25) ≤ p0 then (m_X12_found_26    σ p0 p1) else (if p1 < 0 then (m_X12_found_26    σ p0 p1) else (if 4 < p1 then (m_X12_found_26    σ p0 p1) else (m_X12_found_27    σ p0 p1 0))))
set_option maxHeartbeats 4000000 in
set_option maxRecDepth 100000 in
theorem kb_X12_found_0 {p : Program} {l : Launch} {e : Env} {s : State} {m : MethodId} {args : Array Value} {below : List Frame} {meth : Method} {c : Code} {E : EF} (Z : ZT)    (C : cy p s m args meth c cX12_found (some .int) 3 RX12 wsX12_found E (zD Z) vwCl 24 (za Z) (tysM Z)) {res : Int32 × SG}   : ∀ (σ : SG) (p0 : Int32) (p1 : Int32) , m_X12_found_0    σ p0 p1 = some res → ∀ (H : Heap) (locs : List Loc), ws_P (zD Z) vwCl 24 (za Z) (tM Z) σ H → va_S (ws_A 24 (za Z)) s.heap H locs → ∀ (ls : Array Slot), lv_has ls 3 [(0, .ref (za Z 0)), (1, .int p0), (2, .int p1)] → W p l e rm_X12_found s m args below meth c H locs 0 0 (MQ below (xQi E (zD Z) vwCl 24 (za Z) (tM Z) (tysM Z) res) args s 0 0 (ws_A 24 (za Z))) (F0 m 0 ls []) := by
  have C0 := C
  obtain ⟨hx, hb, hr, hlocks, hml, hown, hts, hE, hJ, hK⟩ := C0
  intro σ p0 p1  h H locs hP hS ls hl
  unfold m_X12_found_0 at h
  refine lv_aload_n hx hb dX12_found_0 rfl (lv_at hl 0 rfl) ?_
  refine lv_iload_n hx hb dX12_found_1 rfl (lv_at hl 1 rfl) ?_
  refine lv_if_lt (tgt := 26) hx hb dX12_found_2 (by decide) (fun q1 => ?_) (fun q1 => ?_)
  · have h := if_p h q1
    exact kb_X12_found_26 Z    C   σ p0 p1 h H locs hP hS ls (lv_sub hl [0, 1, 2] rfl)
  · have h := if_n h q1
    refine lv_iload_n hx hb dX12_found_5 rfl (lv_at hl 1 rfl) ?_
    refine lv_aload_n hx hb dX12_found_6 rfl (lv_at hl 0 rfl) ?_
    refine wr_get (C := RX12) (T := TX12) (N := 41) hx hb hts (in_X12_found_X12) hown hK hP (k := 0) (by decide) ((tM_0 Z) _ _ _) rfl 25 (by decide) (hts (.fieldLink RX12 204 "TuneSearchModel" "foundCount" "I") (by decide +kernel)) (fun _ h9 => h9) rfl dX12_found_7 ?_
    refine lv_icmp_ge (tgt := 26) hx hb dX12_found_10 (by decide) (fun q2 => ?_) (fun q2 => ?_)
    · have h := if_p h q2
      exact kb_X12_found_26 Z    C   σ p0 p1 h H locs hP hS ls (lv_sub hl [0, 1, 2] rfl)
    · have h := if_n h q2
      refine lv_iload_n hx hb dX12_found_13 rfl (lv_at hl 2 rfl) ?_
      refine lv_if_lt (tgt := 26) hx hb dX12_found_14 (by decide) (fun q3 => ?_) (fun q3 => ?_)
      · have h := if_p h q3
        exact kb_X12_found_26 Z    C   σ p0 p1 h H locs hP hS ls (lv_sub hl [0, 1, 2] rfl)
      · have h := if_n h q3
        refine lv_iload_n hx hb dX12_found_17 rfl (lv_at hl 2 rfl) ?_
        refine lv_iconst (v := 4) hx hb dX12_found_18 (by decide) ?_
        refine lv_icmp_gt (tgt := 26) hx hb dX12_found_19 (by decide) (fun q4 => ?_) (fun q4 => ?_)
        · have h := if_p h q4
          exact kb_X12_found_26 Z    C   σ p0 p1 h H locs hP hS ls (lv_sub hl [0, 1, 2] rfl)
        · have h := if_n h q4
          refine lv_iconst (v := 0) hx hb dX12_found_22 (by decide) ?_
          refine lv_goto (tgt := 27) hx hb dX12_found_23 (by decide) ?_
          exact kb_X12_found_27 Z    C   σ p0 p1 0 h H locs hP hS ls (lv_sub hl [0, 1, 2] rfl)
def m_X12_found   (σ : SG) (p0 : Int32) (p1 : Int32) : Option (Int32 × SG) := m_X12_found_0   σ p0 p1
set_option maxHeartbeats 4000000 in
set_option maxRecDepth 100000 in
theorem k_X12_found (l : Launch) {E : EF} (Z : ZT)    (σ : SG) (p0 : Int32) (p1 : Int32) {res : Int32 × SG} (h : m_X12_found   σ p0 p1 = some res) : Met l yX12_found wsX12_found rm_X12_found (va_Pc [.ref (za Z 0), .int p0, .int p1] (wx E (zD Z) vwCl 24 (za Z) (tM Z) (tysM Z) σ)) (xQi E (zD Z) vwCl 24 (za Z) (tM Z) (tysM Z) res) 0 0 (ws_A 24 (za Z)) := by
  refine Met.ofW (cc := cX12_found) (maxL := 3) (ret := (some .int)) (by decide) rfl ?_
  intro p e s m args below meth c s₁ B hml hv
  obtain ⟨rfl, hE, hJ, hP, hK⟩ := hv
  have hl := lv_entry ([.ref (za Z 0), .int p0, .int p1]) (n := 3) (Nat.le_of_ble_eq_true rfl)
  rw [lg_entry_eq]
  generalize (lg_sl ([.ref (za Z 0), .int p0, .int p1]) ++ List.replicate (3 - (lg_sl ([.ref (za Z 0), .int p0, .int p1])).length) Slot.unset).toArray = ls at hl ⊢
  exact kb_X12_found_0 Z    ⟨B.exec, B.bytes, B.returns, B.notSynchronized, hml, findClass_of_methodNamed B.named, atoms_spec (ws := wsX12_found) B.pre, hE, hJ, hK⟩ σ p0 p1 h s.heap [] hP va_S.rf ls hl
/-! TuneSearchModel.family(I)I -/
abbrev rm_X12_family : Room := { frames := 0, cells := 0, slots := 0, locals := 0 }
theorem in_X12_family_X12 : ∀ w ∈ wsX120, w ∈ wsX12_family := by decide +kernel
def m_X12_family_0    (σ : SG) (p0 : Int32) : Option (Int32 × SG) :=
  lS (sI σ 0 0 0) (fun σ1 => if p0 < 0 then (some ((-1), σ1)) else (if (σ1.1 0 40) ≤ p0 then (some ((-1), σ1)) else (gB (inB p0 8) (some (σ1.1 23 p0.toNatClampNeg, σ1)))))
set_option maxHeartbeats 4000000 in
set_option maxRecDepth 100000 in
theorem kb_X12_family_0 {p : Program} {l : Launch} {e : Env} {s : State} {m : MethodId} {args : Array Value} {below : List Frame} {meth : Method} {c : Code} {E : EF} (Z : ZT)    (C : cy p s m args meth c cX12_family (some .int) 2 RX12 wsX12_family E (zD Z) vwCl 24 (za Z) (tysM Z)) {res : Int32 × SG}   : ∀ (σ : SG) (p0 : Int32) , m_X12_family_0    σ p0 = some res → ∀ (H : Heap) (locs : List Loc), ws_P (zD Z) vwCl 24 (za Z) (tM Z) σ H → va_S (ws_A 24 (za Z)) s.heap H locs → ∀ (ls : Array Slot), lv_has ls 2 [(0, .ref (za Z 0)), (1, .int p0)] → W p l e rm_X12_family s m args below meth c H locs 0 0 (MQ below (xQi E (zD Z) vwCl 24 (za Z) (tM Z) (tysM Z) res) args s 0 0 (ws_A 24 (za Z))) (F0 m 0 ls []) := by
  have C0 := C
  obtain ⟨hx, hb, hr, hlocks, hml, hown, hts, hE, hJ, hK⟩ := C0
  intro σ p0  h H locs hP hS ls hl
  unfold m_X12_family_0 at h
  refine lv_aload_n hx hb dX12_family_0 rfl (lv_at hl 0 rfl) ?_
  refine lv_iconst (v := 0) hx hb dX12_family_1 (by decide) ?_
  refine wr_put (C := RX12) (T := TX12) (N := 41) (σ' := sI σ 0 0 0) (ty := .int) hx hb hts (in_X12_family_X12) tyX12 tyX12_ok nmX12 hown hK hP hJ hS (k := 0) (by decide) ((tM_0 Z) _ _ _) rfl 0 (by decide) (hts (.fieldLink RX12 87 "TuneSearchModel" "code" "I") (by decide +kernel)) (fun _ h9 => h9) rfl (by decide +kernel) rfl rfl (Nat.le_of_ble_eq_true rfl) (ws_pI (tM_0 Z) rfl) dX12_family_2 (fun H locs hP hS => ?_)
  obtain ⟨σ1, e2, h⟩ := lS_e h
  rw [← e2] at hP
  refine lv_iload_n hx hb dX12_family_5 rfl (lv_at hl 1 rfl) ?_
  refine lv_if_lt (tgt := 26) hx hb dX12_family_6 (by decide) (fun q3 => ?_) (fun q3 => ?_)
  · have h := if_p h q3
    refine lv_iconst (v := (-1)) hx hb dX12_family_26 (by decide) ?_
    exact xr_iret hx hb hr hlocks hE hJ hK hP hS h dX12_family_27
  · have h := if_n h q3
    refine lv_iload_n hx hb dX12_family_9 rfl (lv_at hl 1 rfl) ?_
    refine lv_aload_n hx hb dX12_family_10 rfl (lv_at hl 0 rfl) ?_
    refine wr_get (C := RX12) (T := TX12) (N := 41) hx hb hts (in_X12_family_X12) hown hK hP (k := 0) (by decide) ((tM_0 Z) _ _ _) rfl 40 (by decide) (hts (.fieldLink RX12 268 "TuneSearchModel" "inFamilies" "I") (by decide +kernel)) (fun _ h9 => h9) rfl dX12_family_11 ?_
    refine lv_icmp_ge (tgt := 26) hx hb dX12_family_14 (by decide) (fun q4 => ?_) (fun q4 => ?_)
    · have h := if_p h q4
      refine lv_iconst (v := (-1)) hx hb dX12_family_26 (by decide) ?_
      exact xr_iret hx hb hr hlocks hE hJ hK hP hS h dX12_family_27
    · have h := if_n h q4
      refine lv_aload_n hx hb dX12_family_17 rfl (lv_at hl 0 rfl) ?_
      refine wr_get (C := RX12) (T := TX12) (N := 41) hx hb hts (in_X12_family_X12) hown hK hP (k := 0) (by decide) ((tM_0 Z) _ _ _) rfl 39 (by decide) (hts (.fieldLink RX12 84 "TuneSearchModel" "family" "[I") (by decide +kernel)) (fun _ h9 => h9) rfl dX12_family_18 ?_
      refine lv_iload_n hx hb dX12_family_21 rfl (lv_at hl 1 rfl) ?_
      obtain ⟨b5, h⟩ := gB_e h
      refine wr_iald hx hb hK hP (k := 23) (by decide) 0 ((tM_23 Z) _ _ _) rfl b5 dX12_family_22 ?_
      refine lv_goto (tgt := 27) hx hb dX12_family_23 (by decide) ?_
      exact xr_iret hx hb hr hlocks hE hJ hK hP hS h dX12_family_27
def m_X12_family   (σ : SG) (p0 : Int32) : Option (Int32 × SG) := m_X12_family_0   σ p0
set_option maxHeartbeats 4000000 in
set_option maxRecDepth 100000 in
theorem k_X12_family (l : Launch) {E : EF} (Z : ZT)    (σ : SG) (p0 : Int32) {res : Int32 × SG} (h : m_X12_family   σ p0 = some res) : Met l yX12_family wsX12_family rm_X12_family (va_Pc [.ref (za Z 0), .int p0] (wx E (zD Z) vwCl 24 (za Z) (tM Z) (tysM Z) σ)) (xQi E (zD Z) vwCl 24 (za Z) (tM Z) (tysM Z) res) 0 0 (ws_A 24 (za Z)) := by
  refine Met.ofW (cc := cX12_family) (maxL := 2) (ret := (some .int)) (by decide) rfl ?_
  intro p e s m args below meth c s₁ B hml hv
  obtain ⟨rfl, hE, hJ, hP, hK⟩ := hv
  have hl := lv_entry ([.ref (za Z 0), .int p0]) (n := 2) (Nat.le_of_ble_eq_true rfl)
  rw [lg_entry_eq]
  generalize (lg_sl ([.ref (za Z 0), .int p0]) ++ List.replicate (2 - (lg_sl ([.ref (za Z 0), .int p0])).length) Slot.unset).toArray = ls at hl ⊢
  exact kb_X12_family_0 Z    ⟨B.exec, B.bytes, B.returns, B.notSynchronized, hml, findClass_of_methodNamed B.named, atoms_spec (ws := wsX12_family) B.pre, hE, hJ, hK⟩ σ p0 h s.heap [] hP va_S.rf ls hl
/-! TuneSearchModel.told(I)I -/
abbrev rm_X12_told : Room := { frames := 0, cells := 0, slots := 0, locals := 0 }
theorem in_X12_told_X12 : ∀ w ∈ wsX120, w ∈ wsX12_told := by decide +kernel
def m_X12_told_49_s    (c49 : SG → Int32 → Int32 → Option (Int32 × SG)) (σ : SG) (l2 : Int32) (l3 : Int32) : Option (Int32 × SG) :=
  if (σ.1 0 4) ≤ l3 then (some (l2, σ)) else (gB (inB l3 9) (lS (l2 + (σ.1 3 l3.toNatClampNeg)) (fun v12 => lS (l3 + 1) (fun v14 => c49 σ v12 v14))))
def m_X12_told_49    : Nat → SG → Int32 → Int32 → Option (Int32 × SG)
  | 0, _, _, _ => none
  | n + 1, σ, l2, l3 => m_X12_told_49_s    (m_X12_told_49    n) σ l2 l3
set_option maxHeartbeats 4000000 in
set_option maxRecDepth 100000 in
theorem kb_X12_told_49 {p : Program} {l : Launch} {e : Env} {s : State} {m : MethodId} {args : Array Value} {below : List Frame} {meth : Method} {c : Code} {E : EF} (Z : ZT)    (C : cy p s m args meth c cX12_told (some .int) 4 RX12 wsX12_told E (zD Z) vwCl 24 (za Z) (tysM Z)) {res : Int32 × SG}   : ∀ (n : Nat) (σ : SG) (l2 : Int32) (l3 : Int32) , m_X12_told_49    n σ l2 l3 = some res → ∀ (H : Heap) (locs : List Loc), ws_P (zD Z) vwCl 24 (za Z) (tM Z) σ H → va_S (ws_A 24 (za Z)) s.heap H locs → ∀ (ls : Array Slot), lv_has ls 4 [(0, .ref (za Z 0)), (2, .int l2), (3, .int l3)] → W p l e rm_X12_told s m args below meth c H locs 0 0 (MQ below (xQi E (zD Z) vwCl 24 (za Z) (tM Z) (tysM Z) res) args s 0 0 (ws_A 24 (za Z))) (F0 m 49 ls []) := by
  have C0 := C
  obtain ⟨hx, hb, hr, hlocks, hml, hown, hts, hE, hJ, hK⟩ := C0
  intro n
  induction n with
  | zero =>
    intro σ l2 l3  h
    cases h
  | succ n ih =>
    intro σ l2 l3  h H locs hP hS ls hl
    have hc49 : ∀ (σ : SG) (l2 : Int32) (l3 : Int32) , m_X12_told_49    n σ l2 l3 = some res → ∀ (H : Heap) (locs : List Loc), ws_P (zD Z) vwCl 24 (za Z) (tM Z) σ H → va_S (ws_A 24 (za Z)) s.heap H locs → ∀ (ls : Array Slot), lv_has ls 4 [(0, .ref (za Z 0)), (2, .int l2), (3, .int l3)] → W p l e rm_X12_told s m args below meth c H locs 0 0 (MQ below (xQi E (zD Z) vwCl 24 (za Z) (tM Z) (tysM Z) res) args s 0 0 (ws_A 24 (za Z))) (F0 m 49 ls []) := ih
    have h : m_X12_told_49_s    (m_X12_told_49    n) σ l2 l3 = some res := h
    unfold m_X12_told_49_s at h
    refine lv_iload_n hx hb dX12_told_49 rfl (lv_at hl 2 rfl) ?_
    refine lv_aload_n hx hb dX12_told_50 rfl (lv_at hl 0 rfl) ?_
    refine wr_get (C := RX12) (T := TX12) (N := 41) hx hb hts (in_X12_told_X12) hown hK hP (k := 0) (by decide) ((tM_0 Z) _ _ _) rfl 4 (by decide) (hts (.fieldLink RX12 90 "TuneSearchModel" "tunes" "I") (by decide +kernel)) (fun _ h9 => h9) rfl dX12_told_51 ?_
    refine lv_icmp_ge (tgt := 72) hx hb dX12_told_54 (by decide) (fun q10 => ?_) (fun q10 => ?_)
    · have h := if_p h q10
      refine lv_iload_n hx hb dX12_told_72 rfl (lv_at hl 1 rfl) ?_
      exact xr_iret hx hb hr hlocks hE hJ hK hP hS h dX12_told_73
    · have h := if_n h q10
      refine lv_iload_n hx hb dX12_told_57 rfl (lv_at hl 1 rfl) ?_
      refine lv_aload_n hx hb dX12_told_58 rfl (lv_at hl 0 rfl) ?_
      refine wr_get (C := RX12) (T := TX12) (N := 41) hx hb hts (in_X12_told_X12) hown hK hP (k := 0) (by decide) ((tM_0 Z) _ _ _) rfl 3 (by decide) (hts (.fieldLink RX12 18 "TuneSearchModel" "size" "[I") (by decide +kernel)) (fun _ h9 => h9) rfl dX12_told_59 ?_
      refine lv_iload_n hx hb dX12_told_62 rfl (lv_at hl 2 rfl) ?_
      obtain ⟨b11, h⟩ := gB_e h
      refine wr_iald hx hb hK hP (k := 3) (by decide) 0 ((tM_3 Z) _ _ _) rfl b11 dX12_told_63 ?_
      refine lv_iadd hx hb dX12_told_64 ?_
      refine lv_topi (fun v12 e13 => ?_)
      have h := lS_u h e13
      refine lv_istore_n (lv' := [(2, .int v12), (0, .ref (za Z 0)), (3, .int l3)]) hx hb dX12_told_65 rfl hl (by decide) rfl (fun ls hl => ?_)
      obtain ⟨v14, e15, h⟩ := lS_e h
      refine lv_iinc (v := v14) (lv' := [(3, .int v14), (2, .int v12), (0, .ref (za Z 0))]) hx hb dX12_told_66 hl (k := 2) rfl (by rw [e15]; rfl) (by decide) rfl (fun ls hl => ?_)
      refine lv_goto (tgt := 49) hx hb dX12_told_69 (by decide) ?_
      exact hc49 σ v12 v14 h H locs hP hS ls (lv_sub hl [2, 1, 0] rfl)
def m_X12_told_0    (σ : SG) (p0 : Int32) : Option (Int32 × SG) :=
  lS (sI σ 0 0 0) (fun σ1 => if p0 = 0 then (some (σ1.1 0 4, σ1)) else (if p0 = 1 then (m_X12_told_49    FV σ1 0 0) else (if p0 = 2 then (gB (inB 8 9) (some (σ1.1 3 (8 : Int32).toNatClampNeg, σ1))) else (if p0 = 3 then (some (σ1.1 0 7, σ1)) else (if p0 = 4 then (some (σ1.1 0 25, σ1)) else (some ((-2), σ1)))))))
set_option maxHeartbeats 4000000 in
set_option maxRecDepth 100000 in
theorem kb_X12_told_0 {p : Program} {l : Launch} {e : Env} {s : State} {m : MethodId} {args : Array Value} {below : List Frame} {meth : Method} {c : Code} {E : EF} (Z : ZT)    (C : cy p s m args meth c cX12_told (some .int) 4 RX12 wsX12_told E (zD Z) vwCl 24 (za Z) (tysM Z)) {res : Int32 × SG}   : ∀ (σ : SG) (p0 : Int32) , m_X12_told_0    σ p0 = some res → ∀ (H : Heap) (locs : List Loc), ws_P (zD Z) vwCl 24 (za Z) (tM Z) σ H → va_S (ws_A 24 (za Z)) s.heap H locs → ∀ (ls : Array Slot), lv_has ls 4 [(0, .ref (za Z 0)), (1, .int p0)] → W p l e rm_X12_told s m args below meth c H locs 0 0 (MQ below (xQi E (zD Z) vwCl 24 (za Z) (tM Z) (tysM Z) res) args s 0 0 (ws_A 24 (za Z))) (F0 m 0 ls []) := by
  have C0 := C
  obtain ⟨hx, hb, hr, hlocks, hml, hown, hts, hE, hJ, hK⟩ := C0
  intro σ p0  h H locs hP hS ls hl
  unfold m_X12_told_0 at h
  refine lv_aload_n hx hb dX12_told_0 rfl (lv_at hl 0 rfl) ?_
  refine lv_iconst (v := 0) hx hb dX12_told_1 (by decide) ?_
  refine wr_put (C := RX12) (T := TX12) (N := 41) (σ' := sI σ 0 0 0) (ty := .int) hx hb hts (in_X12_told_X12) tyX12 tyX12_ok nmX12 hown hK hP hJ hS (k := 0) (by decide) ((tM_0 Z) _ _ _) rfl 0 (by decide) (hts (.fieldLink RX12 87 "TuneSearchModel" "code" "I") (by decide +kernel)) (fun _ h9 => h9) rfl (by decide +kernel) rfl rfl (Nat.le_of_ble_eq_true rfl) (ws_pI (tM_0 Z) rfl) dX12_told_2 (fun H locs hP hS => ?_)
  obtain ⟨σ1, e2, h⟩ := lS_e h
  rw [← e2] at hP
  refine lv_iload_n hx hb dX12_told_5 rfl (lv_at hl 1 rfl) ?_
  by_cases q3 : p0 = 0
  · have h := if_p h q3
    refine lv_tableIn (tgt := 40) hx hb dX12_told_6 (by rw [q3]; decide) (by rw [q3]; decide) (by rw [q3]; rfl) (by decide) ?_
    refine lv_aload_n hx hb dX12_told_40 rfl (lv_at hl 0 rfl) ?_
    refine wr_get (C := RX12) (T := TX12) (N := 41) hx hb hts (in_X12_told_X12) hown hK hP (k := 0) (by decide) ((tM_0 Z) _ _ _) rfl 4 (by decide) (hts (.fieldLink RX12 90 "TuneSearchModel" "tunes" "I") (by decide +kernel)) (fun _ h9 => h9) rfl dX12_told_41 ?_
    exact xr_iret hx hb hr hlocks hE hJ hK hP hS h dX12_told_44
  · have h := if_n h q3
    by_cases q4 : p0 = 1
    · have h := if_p h q4
      refine lv_tableIn (tgt := 45) hx hb dX12_told_6 (by rw [q4]; decide) (by rw [q4]; decide) (by rw [q4]; rfl) (by decide) ?_
      refine lv_iconst (v := 0) hx hb dX12_told_45 (by decide) ?_
      refine lv_istore_n (lv' := [(2, .int 0), (0, .ref (za Z 0)), (1, .int p0)]) hx hb dX12_told_46 rfl hl (by decide) rfl (fun ls hl => ?_)
      refine lv_iconst (v := 0) hx hb dX12_told_47 (by decide) ?_
      refine lv_istore_n (lv' := [(3, .int 0), (2, .int 0), (0, .ref (za Z 0)), (1, .int p0)]) hx hb dX12_told_48 rfl hl (by decide) rfl (fun ls hl => ?_)
      exact kb_X12_told_49 Z    C   FV σ1 0 0 h H locs hP hS ls (lv_sub hl [2, 1, 0] rfl)
    · have h := if_n h q4
      by_cases q5 : p0 = 2
      · have h := if_p h q5
        refine lv_tableIn (tgt := 74) hx hb dX12_told_6 (by rw [q5]; decide) (by rw [q5]; decide) (by rw [q5]; rfl) (by decide) ?_
        refine lv_aload_n hx hb dX12_told_74 rfl (lv_at hl 0 rfl) ?_
        refine wr_get (C := RX12) (T := TX12) (N := 41) hx hb hts (in_X12_told_X12) hown hK hP (k := 0) (by decide) ((tM_0 Z) _ _ _) rfl 3 (by decide) (hts (.fieldLink RX12 18 "TuneSearchModel" "size" "[I") (by decide +kernel)) (fun _ h9 => h9) rfl dX12_told_75 ?_
        refine lv_bipush (v := 8) hx hb dX12_told_78 (by decide) ?_
        obtain ⟨b6, h⟩ := gB_e h
        refine wr_iald hx hb hK hP (k := 3) (by decide) 0 ((tM_3 Z) _ _ _) rfl b6 dX12_told_80 ?_
        exact xr_iret hx hb hr hlocks hE hJ hK hP hS h dX12_told_81
      · have h := if_n h q5
        by_cases q7 : p0 = 3
        · have h := if_p h q7
          refine lv_tableIn (tgt := 82) hx hb dX12_told_6 (by rw [q7]; decide) (by rw [q7]; decide) (by rw [q7]; rfl) (by decide) ?_
          refine lv_aload_n hx hb dX12_told_82 rfl (lv_at hl 0 rfl) ?_
          refine wr_get (C := RX12) (T := TX12) (N := 41) hx hb hts (in_X12_told_X12) hown hK hP (k := 0) (by decide) ((tM_0 Z) _ _ _) rfl 7 (by decide) (hts (.fieldLink RX12 101 "TuneSearchModel" "taped" "I") (by decide +kernel)) (fun _ h9 => h9) rfl dX12_told_83 ?_
          exact xr_iret hx hb hr hlocks hE hJ hK hP hS h dX12_told_86
        · have h := if_n h q7
          by_cases q8 : p0 = 4
          · have h := if_p h q8
            refine lv_tableIn (tgt := 87) hx hb dX12_told_6 (by rw [q8]; decide) (by rw [q8]; decide) (by rw [q8]; rfl) (by decide) ?_
            refine lv_aload_n hx hb dX12_told_87 rfl (lv_at hl 0 rfl) ?_
            refine wr_get (C := RX12) (T := TX12) (N := 41) hx hb hts (in_X12_told_X12) hown hK hP (k := 0) (by decide) ((tM_0 Z) _ _ _) rfl 25 (by decide) (hts (.fieldLink RX12 204 "TuneSearchModel" "foundCount" "I") (by decide +kernel)) (fun _ h9 => h9) rfl dX12_told_88 ?_
            exact xr_iret hx hb hr hlocks hE hJ hK hP hS h dX12_told_91
          · have h := if_n h q8
            have z9 : (p0 : Int32).toInt < 0 ∨ 4 < (p0 : Int32).toInt := by
              rcases Classical.em ((p0 : Int32).toInt < 0 ∨ 4 < (p0 : Int32).toInt) with z | z
              · exact z
              · exfalso
                have z2 : (p0 : Int32).toInt = 0 ∨ (p0 : Int32).toInt = 1 ∨ (p0 : Int32).toInt = 2 ∨ (p0 : Int32).toInt = 3 ∨ (p0 : Int32).toInt = 4 := by omega
                rcases z2 with z2 | z2 | z2 | z2 | z2
                · exact q3 (Int32.toInt_inj.mp (z2.trans (by decide)))
                · exact q4 (Int32.toInt_inj.mp (z2.trans (by decide)))
                · exact q5 (Int32.toInt_inj.mp (z2.trans (by decide)))
                · exact q7 (Int32.toInt_inj.mp (z2.trans (by decide)))
                · exact q8 (Int32.toInt_inj.mp (z2.trans (by decide)))
            refine lv_tableOut (tgt := 92) hx hb dX12_told_6 z9 (by decide) ?_
            refine lv_bipush (v := (-2)) hx hb dX12_told_92 (by decide) ?_
            exact xr_iret hx hb hr hlocks hE hJ hK hP hS h dX12_told_94
def m_X12_told   (σ : SG) (p0 : Int32) : Option (Int32 × SG) := m_X12_told_0   σ p0
set_option maxHeartbeats 4000000 in
set_option maxRecDepth 100000 in
theorem k_X12_told (l : Launch) {E : EF} (Z : ZT)    (σ : SG) (p0 : Int32) {res : Int32 × SG} (h : m_X12_told   σ p0 = some res) : Met l yX12_told wsX12_told rm_X12_told (va_Pc [.ref (za Z 0), .int p0] (wx E (zD Z) vwCl 24 (za Z) (tM Z) (tysM Z) σ)) (xQi E (zD Z) vwCl 24 (za Z) (tM Z) (tysM Z) res) 0 0 (ws_A 24 (za Z)) := by
  refine Met.ofW (cc := cX12_told) (maxL := 4) (ret := (some .int)) (by decide) rfl ?_
  intro p e s m args below meth c s₁ B hml hv
  obtain ⟨rfl, hE, hJ, hP, hK⟩ := hv
  have hl := lv_entry ([.ref (za Z 0), .int p0]) (n := 4) (Nat.le_of_ble_eq_true rfl)
  rw [lg_entry_eq]
  generalize (lg_sl ([.ref (za Z 0), .int p0]) ++ List.replicate (4 - (lg_sl ([.ref (za Z 0), .int p0])).length) Slot.unset).toArray = ls at hl ⊢
  exact kb_X12_told_0 Z    ⟨B.exec, B.bytes, B.returns, B.notSynchronized, hml, findClass_of_methodNamed B.named, atoms_spec (ws := wsX12_told) B.pre, hE, hJ, hK⟩ σ p0 h s.heap [] hP va_S.rf ls hl
