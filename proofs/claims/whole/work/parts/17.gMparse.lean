/-! java/lang/String.isLatin1()Z -/
abbrev rm_J0_isLatin1_aae02 : Room := { frames := 0, cells := 0, slots := 0, locals := 0 }
def m_J0_isLatin1_aae02_0    (σ : SG)  : Option (Int32 × SG) :=
  some (1, σ)
set_option maxHeartbeats 4000000 in
set_option maxRecDepth 100000 in
theorem kb_J0_isLatin1_aae02_0 {p : Program} {l : Launch} {e : Env} {s : State} {m : MethodId} {args : Array Value} {below : List Frame} {meth : Method} {c : Code} (Z : ZT)    (C : cy p s m args meth c cJ0_isLatin1_aae02 (some .boolean) 1 RJ0 wsJ0_isLatin1_aae02 (EM Z) (zD Z) vwCl 24 (za Z) (tysM Z)) {res : Int32 × SG}   : ∀ (σ : SG)  , m_J0_isLatin1_aae02_0    σ  = some res → ∀ (H : Heap) (locs : List Loc), ws_P (zD Z) vwCl 24 (za Z) (tM Z) σ H → va_S (ws_A 24 (za Z)) s.heap H locs → ∀ (ls : Array Slot), lv_has ls 1 [(0, .ref (za Z 1000))] → W p l e rm_J0_isLatin1_aae02 s m args below meth c H locs 0 0 (MQ below (xQi (EM Z) (zD Z) vwCl 24 (za Z) (tM Z) (tysM Z) res) args s 0 0 (ws_A 24 (za Z))) (F0 m 0 ls []) := by
  have C0 := C
  obtain ⟨hx, hb, hr, hlocks, hml, hown, hts, hE, hJ, hK⟩ := C0
  intro σ   h H locs hP hS ls hl
  unfold m_J0_isLatin1_aae02_0 at h
  refine va_gets hx hb hE.2.2.2 hS hown (hts (.fieldLink RJ0 38 "java/lang/String" "COMPACT_STRINGS" "Z") (by decide +kernel)) (fun _ h9 => h9) dJ0_isLatin1_aae02_0 ?_
  refine lv_if_eq (tgt := 17) hx hb dJ0_isLatin1_aae02_3 (by decide) (fun q => absurd q (by decide)) (fun _ => ?_)
  refine lv_aload_n hx hb dJ0_isLatin1_aae02_6 rfl (lv_at hl 0 rfl) ?_
  refine vk_getf hx hb (hE.2.2.1.1 0 (by decide)).2.1 hS hown (hts (.fieldLink RJ0 15 "java/lang/String" "coder" "B") (by decide +kernel)) (fun _ h9 => h9) dJ0_isLatin1_aae02_7 ?_
  refine lv_if_ne (tgt := 17) hx hb dJ0_isLatin1_aae02_10 (by decide) (fun q => absurd q (by decide)) (fun _ => ?_)
  refine lv_iconst (v := 1) hx hb dJ0_isLatin1_aae02_13 (by decide) ?_
  refine lv_goto (tgt := 18) hx hb dJ0_isLatin1_aae02_14 (by decide) ?_
  exact xr_zret hx hb hr hlocks hE hJ hK hP hS rfl h dJ0_isLatin1_aae02_18
def m_J0_isLatin1_aae02   (σ : SG)  : Option (Int32 × SG) := m_J0_isLatin1_aae02_0   σ 
set_option maxHeartbeats 4000000 in
set_option maxRecDepth 100000 in
theorem k_J0_isLatin1_aae02 (l : Launch) (Z : ZT)    (σ : SG)  {res : Int32 × SG} (h : m_J0_isLatin1_aae02   σ  = some res) : Met l yJ0_isLatin1_aae02 wsJ0_isLatin1_aae02 rm_J0_isLatin1_aae02 (va_Pc [.ref (za Z 1000)] (wx (EM Z) (zD Z) vwCl 24 (za Z) (tM Z) (tysM Z) σ)) (xQi (EM Z) (zD Z) vwCl 24 (za Z) (tM Z) (tysM Z) res) 0 0 (ws_A 24 (za Z)) := by
  refine Met.ofW (cc := cJ0_isLatin1_aae02) (maxL := 1) (ret := (some .boolean)) (by decide) rfl ?_
  intro p e s m args below meth c s₁ B hml hv
  obtain ⟨rfl, hE, hJ, hP, hK⟩ := hv
  have hl := lv_entry ([.ref (za Z 1000)]) (n := 1) (Nat.le_of_ble_eq_true rfl)
  rw [lg_entry_eq]
  generalize (lg_sl ([.ref (za Z 1000)]) ++ List.replicate (1 - (lg_sl ([.ref (za Z 1000)])).length) Slot.unset).toArray = ls at hl ⊢
  exact kb_J0_isLatin1_aae02_0 Z    ⟨B.exec, B.bytes, B.returns, B.notSynchronized, hml, findClass_of_methodNamed B.named, atoms_spec (ws := wsJ0_isLatin1_aae02) B.pre, hE, hJ, hK⟩ σ  h s.heap [] hP va_S.rf ls hl
/-! java/lang/String.coder()B -/
abbrev rm_J0_coder_7d493 : Room := { frames := 0, cells := 0, slots := 0, locals := 0 }
def m_J0_coder_7d493_0    (σ : SG)  : Option (Int32 × SG) :=
  some (0, σ)
set_option maxHeartbeats 4000000 in
set_option maxRecDepth 100000 in
theorem kb_J0_coder_7d493_0 {p : Program} {l : Launch} {e : Env} {s : State} {m : MethodId} {args : Array Value} {below : List Frame} {meth : Method} {c : Code} (Z : ZT)    (C : cy p s m args meth c cJ0_coder_7d493 (some .byte) 1 RJ0 wsJ0_coder_7d493 (EM Z) (zD Z) vwCl 24 (za Z) (tysM Z)) {res : Int32 × SG}   : ∀ (σ : SG)  , m_J0_coder_7d493_0    σ  = some res → ∀ (H : Heap) (locs : List Loc), ws_P (zD Z) vwCl 24 (za Z) (tM Z) σ H → va_S (ws_A 24 (za Z)) s.heap H locs → ∀ (ls : Array Slot), lv_has ls 1 [(0, .ref (za Z 1000))] → W p l e rm_J0_coder_7d493 s m args below meth c H locs 0 0 (MQ below (xQi (EM Z) (zD Z) vwCl 24 (za Z) (tM Z) (tysM Z) res) args s 0 0 (ws_A 24 (za Z))) (F0 m 0 ls []) := by
  have C0 := C
  obtain ⟨hx, hb, hr, hlocks, hml, hown, hts, hE, hJ, hK⟩ := C0
  intro σ   h H locs hP hS ls hl
  unfold m_J0_coder_7d493_0 at h
  refine va_gets hx hb hE.2.2.2 hS hown (hts (.fieldLink RJ0 38 "java/lang/String" "COMPACT_STRINGS" "Z") (by decide +kernel)) (fun _ h9 => h9) dJ0_coder_7d493_0 ?_
  refine lv_if_eq (tgt := 13) hx hb dJ0_coder_7d493_3 (by decide) (fun q => absurd q (by decide)) (fun _ => ?_)
  refine lv_aload_n hx hb dJ0_coder_7d493_6 rfl (lv_at hl 0 rfl) ?_
  refine vk_getf hx hb (hE.2.2.1.1 0 (by decide)).2.1 hS hown (hts (.fieldLink RJ0 15 "java/lang/String" "coder" "B") (by decide +kernel)) (fun _ h9 => h9) dJ0_coder_7d493_7 ?_
  refine lv_goto (tgt := 14) hx hb dJ0_coder_7d493_10 (by decide) ?_
  exact xr_zret hx hb hr hlocks hE hJ hK hP hS rfl h dJ0_coder_7d493_14
def m_J0_coder_7d493   (σ : SG)  : Option (Int32 × SG) := m_J0_coder_7d493_0   σ 
set_option maxHeartbeats 4000000 in
set_option maxRecDepth 100000 in
theorem k_J0_coder_7d493 (l : Launch) (Z : ZT)    (σ : SG)  {res : Int32 × SG} (h : m_J0_coder_7d493   σ  = some res) : Met l yJ0_coder_7d493 wsJ0_coder_7d493 rm_J0_coder_7d493 (va_Pc [.ref (za Z 1000)] (wx (EM Z) (zD Z) vwCl 24 (za Z) (tM Z) (tysM Z) σ)) (xQi (EM Z) (zD Z) vwCl 24 (za Z) (tM Z) (tysM Z) res) 0 0 (ws_A 24 (za Z)) := by
  refine Met.ofW (cc := cJ0_coder_7d493) (maxL := 1) (ret := (some .byte)) (by decide) rfl ?_
  intro p e s m args below meth c s₁ B hml hv
  obtain ⟨rfl, hE, hJ, hP, hK⟩ := hv
  have hl := lv_entry ([.ref (za Z 1000)]) (n := 1) (Nat.le_of_ble_eq_true rfl)
  rw [lg_entry_eq]
  generalize (lg_sl ([.ref (za Z 1000)]) ++ List.replicate (1 - (lg_sl ([.ref (za Z 1000)])).length) Slot.unset).toArray = ls at hl ⊢
  exact kb_J0_coder_7d493_0 Z    ⟨B.exec, B.bytes, B.returns, B.notSynchronized, hml, findClass_of_methodNamed B.named, atoms_spec (ws := wsJ0_coder_7d493) B.pre, hE, hJ, hK⟩ σ  h s.heap [] hP va_S.rf ls hl
/-! java/lang/String.length()I -/
abbrev rm_J0_length_8abf5 : Room := { frames := 1, cells := 0, slots := 0, locals := 20 }
def m_J0_length_8abf5_0    (σ : SG)  : Option (Int32 × SG) :=
  bi (m_J0_coder_7d493  σ ) (fun v1 σ2 => some (11 >>> (v1 &&& 31), σ2))
set_option maxHeartbeats 4000000 in
set_option maxRecDepth 100000 in
theorem kb_J0_length_8abf5_0 {p : Program} {l : Launch} {e : Env} {s : State} {m : MethodId} {args : Array Value} {below : List Frame} {meth : Method} {c : Code} (Z : ZT)    (C : cy p s m args meth c cJ0_length_8abf5 (some .int) 1 RJ0 wsJ0_length_8abf5 (EM Z) (zD Z) vwCl 24 (za Z) (tysM Z)) {res : Int32 × SG}   : ∀ (σ : SG)  , m_J0_length_8abf5_0    σ  = some res → ∀ (H : Heap) (locs : List Loc), ws_P (zD Z) vwCl 24 (za Z) (tM Z) σ H → va_S (ws_A 24 (za Z)) s.heap H locs → ∀ (ls : Array Slot), lv_has ls 1 [(0, .ref (za Z 1000))] → W p l e rm_J0_length_8abf5 s m args below meth c H locs 0 0 (MQ below (xQi (EM Z) (zD Z) vwCl 24 (za Z) (tM Z) (tysM Z) res) args s 0 0 (ws_A 24 (za Z))) (F0 m 0 ls []) := by
  have C0 := C
  obtain ⟨hx, hb, hr, hlocks, hml, hown, hts, hE, hJ, hK⟩ := C0
  intro σ   h H locs hP hS ls hl
  unfold m_J0_length_8abf5_0 at h
  refine lv_aload_n hx hb dJ0_length_8abf5_0 rfl (lv_at hl 0 rfl) ?_
  refine vk_getf hx hb (hE.2.2.1.1 0 (by decide)).2.2.1 hS hown (hts (.fieldLink RJ0 9 "java/lang/String" "value" "[B") (by decide +kernel)) (fun _ h9 => h9) dJ0_length_8abf5_1 ?_
  refine va_tlen (v := 11) hx hb (hE.2.2.1.1 0 (by decide)).2.2.2 hS rfl dJ0_length_8abf5_4 ?_
  refine lv_aload_n hx hb dJ0_length_8abf5_5 rfl (lv_at hl 0 rfl) ?_
  obtain ⟨v1, σ2, hm3, h⟩ := bi_e h
  refine xr_calli (res := (v1, σ2)) (va_runV (As := []) (rest := [.int 11]) ⟨hx, hb, hml, hown, hts⟩ (k_J0_coder_7d493 l Z   σ  hm3) (cwV 0 hts gJ0_length_8abf5_J0_coder_7d493 rfl rfl rfl (by decide +kernel) ⟨Nat.le_of_ble_eq_true rfl, Nat.le_of_ble_eq_true rfl⟩) ⟨wx_blind, vk_recv hE.2.2.1 (i := 0) (by decide) hS, fun U hU hW => ⟨rfl, wx_at hE hJ hP hK hS hU hW⟩⟩ rfl rfl hl.1 rfl (lv_room (Nat.le_of_ble_eq_true rfl)) dJ0_length_8abf5_6 ⟨Nat.le_of_ble_eq_true rfl, Nat.le_of_ble_eq_true rfl⟩) hS (fun H locs hP hS => ?_)
  have hP : ws_P (zD Z) vwCl 24 (za Z) (tM Z) σ2 H := hP
  refine lv_ishr hx hb dJ0_length_8abf5_9 ?_
  exact xr_iret hx hb hr hlocks hE hJ hK hP hS h dJ0_length_8abf5_10
def m_J0_length_8abf5   (σ : SG)  : Option (Int32 × SG) := m_J0_length_8abf5_0   σ 
set_option maxHeartbeats 4000000 in
set_option maxRecDepth 100000 in
theorem k_J0_length_8abf5 (l : Launch) (Z : ZT)    (σ : SG)  {res : Int32 × SG} (h : m_J0_length_8abf5   σ  = some res) : Met l yJ0_length_8abf5 wsJ0_length_8abf5 rm_J0_length_8abf5 (va_Pc [.ref (za Z 1000)] (wx (EM Z) (zD Z) vwCl 24 (za Z) (tM Z) (tysM Z) σ)) (xQi (EM Z) (zD Z) vwCl 24 (za Z) (tM Z) (tysM Z) res) 0 0 (ws_A 24 (za Z)) := by
  refine Met.ofW (cc := cJ0_length_8abf5) (maxL := 1) (ret := (some .int)) (by decide) rfl ?_
  intro p e s m args below meth c s₁ B hml hv
  obtain ⟨rfl, hE, hJ, hP, hK⟩ := hv
  have hl := lv_entry ([.ref (za Z 1000)]) (n := 1) (Nat.le_of_ble_eq_true rfl)
  rw [lg_entry_eq]
  generalize (lg_sl ([.ref (za Z 1000)]) ++ List.replicate (1 - (lg_sl ([.ref (za Z 1000)])).length) Slot.unset).toArray = ls at hl ⊢
  exact kb_J0_length_8abf5_0 Z    ⟨B.exec, B.bytes, B.returns, B.notSynchronized, hml, findClass_of_methodNamed B.named, atoms_spec (ws := wsJ0_length_8abf5) B.pre, hE, hJ, hK⟩ σ  h s.heap [] hP va_S.rf ls hl
/-! java/lang/StringLatin1.canEncode(I)Z -/
abbrev rm_J1_canEncode_9a6ad : Room := { frames := 0, cells := 0, slots := 0, locals := 0 }
def m_J1_canEncode_9a6ad_0    (σ : SG) (p0 : Int32) : Option (Int32 × SG) :=
  if p0 < 0 then (some (0, σ)) else (if 255 < p0 then (some (0, σ)) else (some (1, σ)))
set_option maxHeartbeats 4000000 in
set_option maxRecDepth 100000 in
theorem kb_J1_canEncode_9a6ad_0 {p : Program} {l : Launch} {e : Env} {s : State} {m : MethodId} {args : Array Value} {below : List Frame} {meth : Method} {c : Code} {E : EF} (Z : ZT)    (C : cy p s m args meth c cJ1_canEncode_9a6ad (some .boolean) 1 RJ1 wsJ1_canEncode_9a6ad E (zD Z) vwCl 24 (za Z) (tysM Z)) {res : Int32 × SG}   : ∀ (σ : SG) (p0 : Int32) , m_J1_canEncode_9a6ad_0    σ p0 = some res → ∀ (H : Heap) (locs : List Loc), ws_P (zD Z) vwCl 24 (za Z) (tM Z) σ H → va_S (ws_A 24 (za Z)) s.heap H locs → ∀ (ls : Array Slot), lv_has ls 1 [(0, .int p0)] → W p l e rm_J1_canEncode_9a6ad s m args below meth c H locs 0 0 (MQ below (xQi E (zD Z) vwCl 24 (za Z) (tM Z) (tysM Z) res) args s 0 0 (ws_A 24 (za Z))) (F0 m 0 ls []) := by
  have C0 := C
  obtain ⟨hx, hb, hr, hlocks, hml, hown, hts, hE, hJ, hK⟩ := C0
  intro σ p0  h H locs hP hS ls hl
  unfold m_J1_canEncode_9a6ad_0 at h
  refine lv_iload_n hx hb dJ1_canEncode_9a6ad_0 rfl (lv_at hl 0 rfl) ?_
  refine lv_if_lt (tgt := 15) hx hb dJ1_canEncode_9a6ad_1 (by decide) (fun q1 => ?_) (fun q1 => ?_)
  · have h := if_p h q1
    refine lv_iconst (v := 0) hx hb dJ1_canEncode_9a6ad_15 (by decide) ?_
    exact xr_zret hx hb hr hlocks hE hJ hK hP hS rfl h dJ1_canEncode_9a6ad_16
  · have h := if_n h q1
    refine lv_iload_n hx hb dJ1_canEncode_9a6ad_4 rfl (lv_at hl 0 rfl) ?_
    refine lv_sipush (v := 255) hx hb dJ1_canEncode_9a6ad_5 (by decide) ?_
    refine lv_icmp_gt (tgt := 15) hx hb dJ1_canEncode_9a6ad_8 (by decide) (fun q2 => ?_) (fun q2 => ?_)
    · have h := if_p h q2
      refine lv_iconst (v := 0) hx hb dJ1_canEncode_9a6ad_15 (by decide) ?_
      exact xr_zret hx hb hr hlocks hE hJ hK hP hS rfl h dJ1_canEncode_9a6ad_16
    · have h := if_n h q2
      refine lv_iconst (v := 1) hx hb dJ1_canEncode_9a6ad_11 (by decide) ?_
      refine lv_goto (tgt := 16) hx hb dJ1_canEncode_9a6ad_12 (by decide) ?_
      exact xr_zret hx hb hr hlocks hE hJ hK hP hS rfl h dJ1_canEncode_9a6ad_16
def m_J1_canEncode_9a6ad   (σ : SG) (p0 : Int32) : Option (Int32 × SG) := m_J1_canEncode_9a6ad_0   σ p0
set_option maxHeartbeats 4000000 in
set_option maxRecDepth 100000 in
theorem k_J1_canEncode_9a6ad (l : Launch) {E : EF} (Z : ZT)    (σ : SG) (p0 : Int32) {res : Int32 × SG} (h : m_J1_canEncode_9a6ad   σ p0 = some res) : Met l yJ1_canEncode_9a6ad wsJ1_canEncode_9a6ad rm_J1_canEncode_9a6ad (va_Pc [.int p0] (wx E (zD Z) vwCl 24 (za Z) (tM Z) (tysM Z) σ)) (xQi E (zD Z) vwCl 24 (za Z) (tM Z) (tysM Z) res) 0 0 (ws_A 24 (za Z)) := by
  refine Met.ofW (cc := cJ1_canEncode_9a6ad) (maxL := 1) (ret := (some .boolean)) (by decide) rfl ?_
  intro p e s m args below meth c s₁ B hml hv
  obtain ⟨rfl, hE, hJ, hP, hK⟩ := hv
  have hl := lv_entry ([.int p0]) (n := 1) (Nat.le_of_ble_eq_true rfl)
  rw [lg_entry_eq]
  generalize (lg_sl ([.int p0]) ++ List.replicate (1 - (lg_sl ([.int p0])).length) Slot.unset).toArray = ls at hl ⊢
  exact kb_J1_canEncode_9a6ad_0 Z    ⟨B.exec, B.bytes, B.returns, B.notSynchronized, hml, findClass_of_methodNamed B.named, atoms_spec (ws := wsJ1_canEncode_9a6ad) B.pre, hE, hJ, hK⟩ σ p0 h s.heap [] hP va_S.rf ls hl
/-! java/lang/StringLatin1.indexOfChar([BIII)I -/
abbrev rm_J1_indexOfChar_4cfef : Room := { frames := 0, cells := 0, slots := 0, locals := 0 }
def m_J1_indexOfChar_4cfef_7_s    (c7 : SG → Int32 → Int32 → Int32 → Option (Int32 × SG)) (σ : SG) (l3 : Int32) (l4 : Int32) (l5 : Int32) : Option (Int32 × SG) :=
  if l3 ≤ l5 then (some ((-1), σ)) else (gB (inB l5 11) (if ¬ (sbyt l5.toNatClampNeg) = l4 then (lS (l5 + 1) (fun v6 => c7 σ l3 l4 v6)) else (some (l5, σ))))
def m_J1_indexOfChar_4cfef_7    : Nat → SG → Int32 → Int32 → Int32 → Option (Int32 × SG)
  | 0, _, _, _, _ => none
  | n + 1, σ, l3, l4, l5 => m_J1_indexOfChar_4cfef_7_s    (m_J1_indexOfChar_4cfef_7    n) σ l3 l4 l5
set_option maxHeartbeats 4000000 in
set_option maxRecDepth 100000 in
theorem kb_J1_indexOfChar_4cfef_7 {p : Program} {l : Launch} {e : Env} {s : State} {m : MethodId} {args : Array Value} {below : List Frame} {meth : Method} {c : Code} (Z : ZT)    (C : cy p s m args meth c cJ1_indexOfChar_4cfef (some .int) 6 RJ1 wsJ1_indexOfChar_4cfef (EM Z) (zD Z) vwCl 24 (za Z) (tysM Z)) {res : Int32 × SG}   : ∀ (n : Nat) (σ : SG) (l3 : Int32) (l4 : Int32) (l5 : Int32) , m_J1_indexOfChar_4cfef_7    n σ l3 l4 l5 = some res → ∀ (H : Heap) (locs : List Loc), ws_P (zD Z) vwCl 24 (za Z) (tM Z) σ H → va_S (ws_A 24 (za Z)) s.heap H locs → ∀ (ls : Array Slot), lv_has ls 6 [(0, .ref (za Z 1001)), (3, .int l3), (4, .int l4), (5, .int l5)] → W p l e rm_J1_indexOfChar_4cfef s m args below meth c H locs 0 0 (MQ below (xQi (EM Z) (zD Z) vwCl 24 (za Z) (tM Z) (tysM Z) res) args s 0 0 (ws_A 24 (za Z))) (F0 m 7 ls []) := by
  have C0 := C
  obtain ⟨hx, hb, hr, hlocks, hml, hown, hts, hE, hJ, hK⟩ := C0
  intro n
  induction n with
  | zero =>
    intro σ l3 l4 l5  h
    cases h
  | succ n ih =>
    intro σ l3 l4 l5  h H locs hP hS ls hl
    have hc7 : ∀ (σ : SG) (l3 : Int32) (l4 : Int32) (l5 : Int32) , m_J1_indexOfChar_4cfef_7    n σ l3 l4 l5 = some res → ∀ (H : Heap) (locs : List Loc), ws_P (zD Z) vwCl 24 (za Z) (tM Z) σ H → va_S (ws_A 24 (za Z)) s.heap H locs → ∀ (ls : Array Slot), lv_has ls 6 [(0, .ref (za Z 1001)), (3, .int l3), (4, .int l4), (5, .int l5)] → W p l e rm_J1_indexOfChar_4cfef s m args below meth c H locs 0 0 (MQ below (xQi (EM Z) (zD Z) vwCl 24 (za Z) (tM Z) (tysM Z) res) args s 0 0 (ws_A 24 (za Z))) (F0 m 7 ls []) := ih
    have h : m_J1_indexOfChar_4cfef_7_s    (m_J1_indexOfChar_4cfef_7    n) σ l3 l4 l5 = some res := h
    unfold m_J1_indexOfChar_4cfef_7_s at h
    refine lv_iload hx hb dJ1_indexOfChar_4cfef_7 (lv_at hl 3 rfl) ?_
    refine lv_iload_n hx hb dJ1_indexOfChar_4cfef_9 rfl (lv_at hl 1 rfl) ?_
    refine lv_icmp_ge (tgt := 31) hx hb dJ1_indexOfChar_4cfef_10 (by decide) (fun q3 => ?_) (fun q3 => ?_)
    · have h := if_p h q3
      refine lv_iconst (v := (-1)) hx hb dJ1_indexOfChar_4cfef_31 (by decide) ?_
      exact xr_iret hx hb hr hlocks hE hJ hK hP hS h dJ1_indexOfChar_4cfef_32
    · have h := if_n h q3
      refine lv_aload_n hx hb dJ1_indexOfChar_4cfef_13 rfl (lv_at hl 0 rfl) ?_
      refine lv_iload hx hb dJ1_indexOfChar_4cfef_14 (lv_at hl 3 rfl) ?_
      obtain ⟨b4, h⟩ := gB_e h
      refine va_tb (v := .int (sbyt l5.toNatClampNeg)) hx hb (hE.2.2.1.1 0 (by decide)).2.2.2 hS (inB_e b4) rfl dJ1_indexOfChar_4cfef_16 ?_
      refine lv_iload hx hb dJ1_indexOfChar_4cfef_17 (lv_at hl 2 rfl) ?_
      refine lv_icmp_ne (tgt := 25) hx hb dJ1_indexOfChar_4cfef_19 (by decide) (fun q5 => ?_) (fun q5 => ?_)
      · have h := if_p h q5
        obtain ⟨v6, e7, h⟩ := lS_e h
        refine lv_iinc (v := v6) (lv' := [(5, .int v6), (0, .ref (za Z 1001)), (3, .int l3), (4, .int l4)]) hx hb dJ1_indexOfChar_4cfef_25 hl (k := 3) rfl (by rw [e7]; rfl) (by decide) rfl (fun ls hl => ?_)
        refine lv_goto (tgt := 7) hx hb dJ1_indexOfChar_4cfef_28 (by decide) ?_
        exact hc7 σ l3 l4 v6 h H locs hP hS ls (lv_sub hl [1, 2, 3, 0] rfl)
      · have h := if_n h (fun z => z q5)
        refine lv_iload hx hb dJ1_indexOfChar_4cfef_22 (lv_at hl 3 rfl) ?_
        exact xr_iret hx hb hr hlocks hE hJ hK hP hS h dJ1_indexOfChar_4cfef_24
def m_J1_indexOfChar_4cfef_0    (σ : SG) (p1 : Int32) (p2 : Int32) (p3 : Int32) : Option (Int32 × SG) :=
  lS (p1.toInt8.toInt32) (fun v1 => m_J1_indexOfChar_4cfef_7    FV σ p3 v1 p2)
set_option maxHeartbeats 4000000 in
set_option maxRecDepth 100000 in
theorem kb_J1_indexOfChar_4cfef_0 {p : Program} {l : Launch} {e : Env} {s : State} {m : MethodId} {args : Array Value} {below : List Frame} {meth : Method} {c : Code} (Z : ZT)    (C : cy p s m args meth c cJ1_indexOfChar_4cfef (some .int) 6 RJ1 wsJ1_indexOfChar_4cfef (EM Z) (zD Z) vwCl 24 (za Z) (tysM Z)) {res : Int32 × SG}   : ∀ (σ : SG) (p1 : Int32) (p2 : Int32) (p3 : Int32) , m_J1_indexOfChar_4cfef_0    σ p1 p2 p3 = some res → ∀ (H : Heap) (locs : List Loc), ws_P (zD Z) vwCl 24 (za Z) (tM Z) σ H → va_S (ws_A 24 (za Z)) s.heap H locs → ∀ (ls : Array Slot), lv_has ls 6 [(0, .ref (za Z 1001)), (1, .int p1), (2, .int p2), (3, .int p3)] → W p l e rm_J1_indexOfChar_4cfef s m args below meth c H locs 0 0 (MQ below (xQi (EM Z) (zD Z) vwCl 24 (za Z) (tM Z) (tysM Z) res) args s 0 0 (ws_A 24 (za Z))) (F0 m 0 ls []) := by
  have C0 := C
  obtain ⟨hx, hb, hr, hlocks, hml, hown, hts, hE, hJ, hK⟩ := C0
  intro σ p1 p2 p3  h H locs hP hS ls hl
  unfold m_J1_indexOfChar_4cfef_0 at h
  refine lv_iload_n hx hb dJ1_indexOfChar_4cfef_0 rfl (lv_at hl 1 rfl) ?_
  refine lv_i2b hx hb dJ1_indexOfChar_4cfef_1 rfl ?_
  refine lv_topi (fun v1 e2 => ?_)
  have h := lS_u h e2
  refine lv_istore (lv' := [(4, .int v1), (0, .ref (za Z 1001)), (1, .int p1), (2, .int p2), (3, .int p3)]) hx hb dJ1_indexOfChar_4cfef_2 hl (by decide) rfl (fun ls hl => ?_)
  refine lv_iload_n hx hb dJ1_indexOfChar_4cfef_4 rfl (lv_at hl 3 rfl) ?_
  refine lv_istore (lv' := [(5, .int p2), (4, .int v1), (0, .ref (za Z 1001)), (1, .int p1), (2, .int p2), (3, .int p3)]) hx hb dJ1_indexOfChar_4cfef_5 hl (by decide) rfl (fun ls hl => ?_)
  exact kb_J1_indexOfChar_4cfef_7 Z    C   FV σ p3 v1 p2 h H locs hP hS ls (lv_sub hl [2, 5, 1, 0] rfl)
def m_J1_indexOfChar_4cfef   (σ : SG) (p1 : Int32) (p2 : Int32) (p3 : Int32) : Option (Int32 × SG) := m_J1_indexOfChar_4cfef_0   σ p1 p2 p3
set_option maxHeartbeats 4000000 in
set_option maxRecDepth 100000 in
theorem k_J1_indexOfChar_4cfef (l : Launch) (Z : ZT)    (σ : SG) (p1 : Int32) (p2 : Int32) (p3 : Int32) {res : Int32 × SG} (h : m_J1_indexOfChar_4cfef   σ p1 p2 p3 = some res) : Met l yJ1_indexOfChar_4cfef wsJ1_indexOfChar_4cfef rm_J1_indexOfChar_4cfef (va_Pc [.ref (za Z 1001), .int p1, .int p2, .int p3] (wx (EM Z) (zD Z) vwCl 24 (za Z) (tM Z) (tysM Z) σ)) (xQi (EM Z) (zD Z) vwCl 24 (za Z) (tM Z) (tysM Z) res) 0 0 (ws_A 24 (za Z)) := by
  refine Met.ofW (cc := cJ1_indexOfChar_4cfef) (maxL := 6) (ret := (some .int)) (by decide) rfl ?_
  intro p e s m args below meth c s₁ B hml hv
  obtain ⟨rfl, hE, hJ, hP, hK⟩ := hv
  have hl := lv_entry ([.ref (za Z 1001), .int p1, .int p2, .int p3]) (n := 6) (Nat.le_of_ble_eq_true rfl)
  rw [lg_entry_eq]
  generalize (lg_sl ([.ref (za Z 1001), .int p1, .int p2, .int p3]) ++ List.replicate (6 - (lg_sl ([.ref (za Z 1001), .int p1, .int p2, .int p3])).length) Slot.unset).toArray = ls at hl ⊢
  exact kb_J1_indexOfChar_4cfef_0 Z    ⟨B.exec, B.bytes, B.returns, B.notSynchronized, hml, findClass_of_methodNamed B.named, atoms_spec (ws := wsJ1_indexOfChar_4cfef) B.pre, hE, hJ, hK⟩ σ p1 p2 p3 h s.heap [] hP va_S.rf ls hl
/-! java/lang/StringLatin1.indexOf([BIII)I -/
abbrev rm_J1_indexOf_4cfef : Room := { frames := 1, cells := 0, slots := 0, locals := 25 }
def m_J1_indexOf_4cfef_0    (σ : SG) (p1 : Int32) (p2 : Int32) (p3 : Int32) : Option (Int32 × SG) :=
  bi (m_J1_canEncode_9a6ad  σ p1) (fun v1 σ2 => if ¬ v1 = 0 then (lS (if p2 < 0 then 0 else p2) (fun v5 => lS (if 11 < p3 then 11 else p3) (fun v7 => if v5 < v7 then (bi (m_J1_indexOfChar_4cfef  σ2 p1 v5 v7) (fun v10 σ11 => some (v10, σ11))) else (some ((-1), σ2))))) else (some ((-1), σ2)))
set_option maxHeartbeats 4000000 in
set_option maxRecDepth 100000 in
theorem kb_J1_indexOf_4cfef_0 {p : Program} {l : Launch} {e : Env} {s : State} {m : MethodId} {args : Array Value} {below : List Frame} {meth : Method} {c : Code} (Z : ZT)    (C : cy p s m args meth c cJ1_indexOf_4cfef (some .int) 4 RJ1 wsJ1_indexOf_4cfef (EM Z) (zD Z) vwCl 24 (za Z) (tysM Z)) {res : Int32 × SG}   : ∀ (σ : SG) (p1 : Int32) (p2 : Int32) (p3 : Int32) , m_J1_indexOf_4cfef_0    σ p1 p2 p3 = some res → ∀ (H : Heap) (locs : List Loc), ws_P (zD Z) vwCl 24 (za Z) (tM Z) σ H → va_S (ws_A 24 (za Z)) s.heap H locs → ∀ (ls : Array Slot), lv_has ls 4 [(0, .ref (za Z 1001)), (1, .int p1), (2, .int p2), (3, .int p3)] → W p l e rm_J1_indexOf_4cfef s m args below meth c H locs 0 0 (MQ below (xQi (EM Z) (zD Z) vwCl 24 (za Z) (tM Z) (tysM Z) res) args s 0 0 (ws_A 24 (za Z))) (F0 m 0 ls []) := by
  have C0 := C
  obtain ⟨hx, hb, hr, hlocks, hml, hown, hts, hE, hJ, hK⟩ := C0
  intro σ p1 p2 p3  h H locs hP hS ls hl
  unfold m_J1_indexOf_4cfef_0 at h
  refine lv_iload_n hx hb dJ1_indexOf_4cfef_0 rfl (lv_at hl 1 rfl) ?_
  obtain ⟨v1, σ2, hm3, h⟩ := bi_e h
  refine xr_calli (res := (v1, σ2)) (va_runS (As := [.int p1]) (rest := []) ⟨hx, hb, hml, hown, hts⟩ (k_J1_canEncode_9a6ad l Z   σ p1 hm3) (va_cwS 1 hts gJ1_indexOf_4cfef_J1_canEncode_9a6ad rfl rfl rfl (by decide +kernel) ⟨Nat.le_of_ble_eq_true rfl, Nat.le_of_ble_eq_true rfl⟩) ⟨wx_blind, fun U hU hW => ⟨rfl, wx_at hE hJ hP hK hS hU hW⟩⟩ rfl rfl hl.1 rfl (lv_room (Nat.le_of_ble_eq_true rfl)) dJ1_indexOf_4cfef_1 ⟨Nat.le_of_ble_eq_true rfl, Nat.le_of_ble_eq_true rfl⟩) hS (fun H locs hP hS => ?_)
  have hP : ws_P (zD Z) vwCl 24 (za Z) (tM Z) σ2 H := hP
  refine lv_if_ne (tgt := 9) hx hb dJ1_indexOf_4cfef_4 (by decide) (fun q4 => ?_) (fun q4 => ?_)
  · have h := if_p h q4
    refine lv_iload_n hx hb dJ1_indexOf_4cfef_9 rfl (lv_at hl 2 rfl) ?_
    refine lv_iconst (v := 0) hx hb dJ1_indexOf_4cfef_10 (by decide) ?_
    refine va_mmax hx hb (by rw [hml]; exact hl.1.symm) hown (hts (.methodLink RJ1 92 Lib.Math.max.name) (by decide +kernel)) (hts (.static Lib.Math.max.name) (by decide +kernel)) (hts (.initialized "java/lang/Math") (by decide +kernel)) (hts (.code Lib.Math.max.name Lib.Math.max.code 2 (some .int)) (by decide +kernel)) (Nat.le_of_ble_eq_true rfl) (Nat.le_of_ble_eq_true rfl) (Nat.le_of_ble_eq_true rfl) (Nat.le_of_ble_eq_true rfl) dJ1_indexOf_4cfef_11 ?_
    refine lv_topi (fun v5 e6 => ?_)
    have h := lS_u h e6
    refine lv_istore_n (lv' := [(2, .int v5), (0, .ref (za Z 1001)), (1, .int p1), (3, .int p3)]) hx hb dJ1_indexOf_4cfef_14 rfl hl (by decide) rfl (fun ls hl => ?_)
    refine lv_iload_n hx hb dJ1_indexOf_4cfef_15 rfl (lv_at hl 3 rfl) ?_
    refine lv_aload_n hx hb dJ1_indexOf_4cfef_16 rfl (lv_at hl 1 rfl) ?_
    refine va_tlen (v := 11) hx hb (hE.2.2.1.1 0 (by decide)).2.2.2 hS rfl dJ1_indexOf_4cfef_17 ?_
    refine va_mmin hx hb (by rw [hml]; exact hl.1.symm) hown (hts (.methodLink RJ1 38 Lib.Math.min.name) (by decide +kernel)) (hts (.static Lib.Math.min.name) (by decide +kernel)) (hts (.initialized "java/lang/Math") (by decide +kernel)) (hts (.code Lib.Math.min.name Lib.Math.min.code 2 (some .int)) (by decide +kernel)) (Nat.le_of_ble_eq_true rfl) (Nat.le_of_ble_eq_true rfl) (Nat.le_of_ble_eq_true rfl) (Nat.le_of_ble_eq_true rfl) dJ1_indexOf_4cfef_18 ?_
    refine lv_topi (fun v7 e8 => ?_)
    have h := lS_u h e8
    refine lv_istore_n (lv' := [(3, .int v7), (2, .int v5), (0, .ref (za Z 1001)), (1, .int p1)]) hx hb dJ1_indexOf_4cfef_21 rfl hl (by decide) rfl (fun ls hl => ?_)
    refine lv_iload_n hx hb dJ1_indexOf_4cfef_22 rfl (lv_at hl 1 rfl) ?_
    refine lv_iload_n hx hb dJ1_indexOf_4cfef_23 rfl (lv_at hl 0 rfl) ?_
    refine lv_icmp_lt (tgt := 29) hx hb dJ1_indexOf_4cfef_24 (by decide) (fun q9 => ?_) (fun q9 => ?_)
    · have h := if_p h q9
      refine lv_aload_n hx hb dJ1_indexOf_4cfef_29 rfl (lv_at hl 2 rfl) ?_
      refine lv_iload_n hx hb dJ1_indexOf_4cfef_30 rfl (lv_at hl 3 rfl) ?_
      refine lv_iload_n hx hb dJ1_indexOf_4cfef_31 rfl (lv_at hl 1 rfl) ?_
      refine lv_iload_n hx hb dJ1_indexOf_4cfef_32 rfl (lv_at hl 0 rfl) ?_
      obtain ⟨v10, σ11, hm12, h⟩ := bi_e h
      refine xr_calli (res := (v10, σ11)) (va_runS (As := [.ref (za Z 1001), .int p1, .int v5, .int v7]) (rest := []) ⟨hx, hb, hml, hown, hts⟩ (k_J1_indexOfChar_4cfef l Z   σ2 p1 v5 v7 hm12) (va_cwS 4 hts gJ1_indexOf_4cfef_J1_indexOfChar_4cfef rfl rfl rfl (by decide +kernel) ⟨Nat.le_of_ble_eq_true rfl, Nat.le_of_ble_eq_true rfl⟩) ⟨wx_blind, fun U hU hW => ⟨rfl, wx_at hE hJ hP hK hS hU hW⟩⟩ rfl rfl hl.1 rfl (lv_room (Nat.le_of_ble_eq_true rfl)) dJ1_indexOf_4cfef_33 ⟨Nat.le_of_ble_eq_true rfl, Nat.le_of_ble_eq_true rfl⟩) hS (fun H locs hP hS => ?_)
      have hP : ws_P (zD Z) vwCl 24 (za Z) (tM Z) σ11 H := hP
      exact xr_iret hx hb hr hlocks hE hJ hK hP hS h dJ1_indexOf_4cfef_36
    · have h := if_n h q9
      refine lv_iconst (v := (-1)) hx hb dJ1_indexOf_4cfef_27 (by decide) ?_
      exact xr_iret hx hb hr hlocks hE hJ hK hP hS h dJ1_indexOf_4cfef_28
  · have h := if_n h (fun z => z q4)
    refine lv_iconst (v := (-1)) hx hb dJ1_indexOf_4cfef_7 (by decide) ?_
    exact xr_iret hx hb hr hlocks hE hJ hK hP hS h dJ1_indexOf_4cfef_8
def m_J1_indexOf_4cfef   (σ : SG) (p1 : Int32) (p2 : Int32) (p3 : Int32) : Option (Int32 × SG) := m_J1_indexOf_4cfef_0   σ p1 p2 p3
set_option maxHeartbeats 4000000 in
set_option maxRecDepth 100000 in
theorem k_J1_indexOf_4cfef (l : Launch) (Z : ZT)    (σ : SG) (p1 : Int32) (p2 : Int32) (p3 : Int32) {res : Int32 × SG} (h : m_J1_indexOf_4cfef   σ p1 p2 p3 = some res) : Met l yJ1_indexOf_4cfef wsJ1_indexOf_4cfef rm_J1_indexOf_4cfef (va_Pc [.ref (za Z 1001), .int p1, .int p2, .int p3] (wx (EM Z) (zD Z) vwCl 24 (za Z) (tM Z) (tysM Z) σ)) (xQi (EM Z) (zD Z) vwCl 24 (za Z) (tM Z) (tysM Z) res) 0 0 (ws_A 24 (za Z)) := by
  refine Met.ofW (cc := cJ1_indexOf_4cfef) (maxL := 4) (ret := (some .int)) (by decide) rfl ?_
  intro p e s m args below meth c s₁ B hml hv
  obtain ⟨rfl, hE, hJ, hP, hK⟩ := hv
  have hl := lv_entry ([.ref (za Z 1001), .int p1, .int p2, .int p3]) (n := 4) (Nat.le_of_ble_eq_true rfl)
  rw [lg_entry_eq]
  generalize (lg_sl ([.ref (za Z 1001), .int p1, .int p2, .int p3]) ++ List.replicate (4 - (lg_sl ([.ref (za Z 1001), .int p1, .int p2, .int p3])).length) Slot.unset).toArray = ls at hl ⊢
  exact kb_J1_indexOf_4cfef_0 Z    ⟨B.exec, B.bytes, B.returns, B.notSynchronized, hml, findClass_of_methodNamed B.named, atoms_spec (ws := wsJ1_indexOf_4cfef) B.pre, hE, hJ, hK⟩ σ p1 p2 p3 h s.heap [] hP va_S.rf ls hl
/-! java/lang/String.indexOf(II)I -/
abbrev rm_J0_indexOf_7cf53 : Room := { frames := 2, cells := 0, slots := 0, locals := 48 }
def m_J0_indexOf_7cf53_0    (σ : SG) (p0 : Int32) (p1 : Int32) : Option (Int32 × SG) :=
  bi (m_J0_isLatin1_aae02  σ ) (fun v1 σ2 => if v1 = 0 then (bi (m_J0_length_8abf5  σ2 ) (fun v5 σ6 => none)) else (bi (m_J0_length_8abf5  σ2 ) (fun v8 σ9 => bi (m_J1_indexOf_4cfef  σ9 p0 p1 v8) (fun v11 σ12 => some (v11, σ12)))))
set_option maxHeartbeats 4000000 in
set_option maxRecDepth 100000 in
theorem kb_J0_indexOf_7cf53_0 {p : Program} {l : Launch} {e : Env} {s : State} {m : MethodId} {args : Array Value} {below : List Frame} {meth : Method} {c : Code} (Z : ZT)    (C : cy p s m args meth c cJ0_indexOf_7cf53 (some .int) 3 RJ0 wsJ0_indexOf_7cf53 (EM Z) (zD Z) vwCl 24 (za Z) (tysM Z)) {res : Int32 × SG}   : ∀ (σ : SG) (p0 : Int32) (p1 : Int32) , m_J0_indexOf_7cf53_0    σ p0 p1 = some res → ∀ (H : Heap) (locs : List Loc), ws_P (zD Z) vwCl 24 (za Z) (tM Z) σ H → va_S (ws_A 24 (za Z)) s.heap H locs → ∀ (ls : Array Slot), lv_has ls 3 [(0, .ref (za Z 1000)), (1, .int p0), (2, .int p1)] → W p l e rm_J0_indexOf_7cf53 s m args below meth c H locs 0 0 (MQ below (xQi (EM Z) (zD Z) vwCl 24 (za Z) (tM Z) (tysM Z) res) args s 0 0 (ws_A 24 (za Z))) (F0 m 0 ls []) := by
  have C0 := C
  obtain ⟨hx, hb, hr, hlocks, hml, hown, hts, hE, hJ, hK⟩ := C0
  intro σ p0 p1  h H locs hP hS ls hl
  unfold m_J0_indexOf_7cf53_0 at h
  refine lv_aload_n hx hb dJ0_indexOf_7cf53_0 rfl (lv_at hl 0 rfl) ?_
  obtain ⟨v1, σ2, hm3, h⟩ := bi_e h
  refine xr_calli (res := (v1, σ2)) (va_runV (As := []) (rest := []) ⟨hx, hb, hml, hown, hts⟩ (k_J0_isLatin1_aae02 l Z   σ  hm3) (cwV 0 hts gJ0_indexOf_7cf53_J0_isLatin1_aae02 rfl rfl rfl (by decide +kernel) ⟨Nat.le_of_ble_eq_true rfl, Nat.le_of_ble_eq_true rfl⟩) ⟨wx_blind, vk_recv hE.2.2.1 (i := 0) (by decide) hS, fun U hU hW => ⟨rfl, wx_at hE hJ hP hK hS hU hW⟩⟩ rfl rfl hl.1 rfl (lv_room (Nat.le_of_ble_eq_true rfl)) dJ0_indexOf_7cf53_1 ⟨Nat.le_of_ble_eq_true rfl, Nat.le_of_ble_eq_true rfl⟩) hS (fun H locs hP hS => ?_)
  have hP : ws_P (zD Z) vwCl 24 (za Z) (tM Z) σ2 H := hP
  refine lv_if_eq (tgt := 23) hx hb dJ0_indexOf_7cf53_4 (by decide) (fun q4 => ?_) (fun q4 => ?_)
  · have h := if_p h q4
    refine lv_aload_n hx hb dJ0_indexOf_7cf53_23 rfl (lv_at hl 0 rfl) ?_
    refine vk_getf hx hb (hE.2.2.1.1 0 (by decide)).2.2.1 hS hown (hts (.fieldLink RJ0 9 "java/lang/String" "value" "[B") (by decide +kernel)) (fun _ h9 => h9) dJ0_indexOf_7cf53_24 ?_
    refine lv_iload_n hx hb dJ0_indexOf_7cf53_27 rfl (lv_at hl 1 rfl) ?_
    refine lv_iload_n hx hb dJ0_indexOf_7cf53_28 rfl (lv_at hl 2 rfl) ?_
    refine lv_aload_n hx hb dJ0_indexOf_7cf53_29 rfl (lv_at hl 0 rfl) ?_
    obtain ⟨v5, σ6, hm7, h⟩ := bi_e h
    refine xr_calli (res := (v5, σ6)) (va_runV (As := []) (rest := [.int p1, .int p0, .ref (za Z 1001)]) ⟨hx, hb, hml, hown, hts⟩ (k_J0_length_8abf5 l Z   σ2  hm7) (cwV 0 hts gJ0_indexOf_7cf53_J0_length_8abf5 rfl rfl rfl (by decide +kernel) ⟨Nat.le_of_ble_eq_true rfl, Nat.le_of_ble_eq_true rfl⟩) ⟨wx_blind, vk_recv hE.2.2.1 (i := 0) (by decide) hS, fun U hU hW => ⟨rfl, wx_at hE hJ hP hK hS hU hW⟩⟩ rfl rfl hl.1 rfl (lv_room (Nat.le_of_ble_eq_true rfl)) dJ0_indexOf_7cf53_30 ⟨Nat.le_of_ble_eq_true rfl, Nat.le_of_ble_eq_true rfl⟩) hS (fun H locs hP hS => ?_)
    have hP : ws_P (zD Z) vwCl 24 (za Z) (tM Z) σ6 H := hP
    cases h
  · have h := if_n h q4
    refine lv_aload_n hx hb dJ0_indexOf_7cf53_7 rfl (lv_at hl 0 rfl) ?_
    refine vk_getf hx hb (hE.2.2.1.1 0 (by decide)).2.2.1 hS hown (hts (.fieldLink RJ0 9 "java/lang/String" "value" "[B") (by decide +kernel)) (fun _ h9 => h9) dJ0_indexOf_7cf53_8 ?_
    refine lv_iload_n hx hb dJ0_indexOf_7cf53_11 rfl (lv_at hl 1 rfl) ?_
    refine lv_iload_n hx hb dJ0_indexOf_7cf53_12 rfl (lv_at hl 2 rfl) ?_
    refine lv_aload_n hx hb dJ0_indexOf_7cf53_13 rfl (lv_at hl 0 rfl) ?_
    obtain ⟨v8, σ9, hm10, h⟩ := bi_e h
    refine xr_calli (res := (v8, σ9)) (va_runV (As := []) (rest := [.int p1, .int p0, .ref (za Z 1001)]) ⟨hx, hb, hml, hown, hts⟩ (k_J0_length_8abf5 l Z   σ2  hm10) (cwV 0 hts gJ0_indexOf_7cf53_J0_length_8abf5 rfl rfl rfl (by decide +kernel) ⟨Nat.le_of_ble_eq_true rfl, Nat.le_of_ble_eq_true rfl⟩) ⟨wx_blind, vk_recv hE.2.2.1 (i := 0) (by decide) hS, fun U hU hW => ⟨rfl, wx_at hE hJ hP hK hS hU hW⟩⟩ rfl rfl hl.1 rfl (lv_room (Nat.le_of_ble_eq_true rfl)) dJ0_indexOf_7cf53_14 ⟨Nat.le_of_ble_eq_true rfl, Nat.le_of_ble_eq_true rfl⟩) hS (fun H locs hP hS => ?_)
    have hP : ws_P (zD Z) vwCl 24 (za Z) (tM Z) σ9 H := hP
    obtain ⟨v11, σ12, hm13, h⟩ := bi_e h
    refine xr_calli (res := (v11, σ12)) (va_runS (As := [.ref (za Z 1001), .int p0, .int p1, .int v8]) (rest := []) ⟨hx, hb, hml, hown, hts⟩ (k_J1_indexOf_4cfef l Z   σ9 p0 p1 v8 hm13) (va_cwS 4 hts gJ0_indexOf_7cf53_J1_indexOf_4cfef rfl rfl rfl (by decide +kernel) ⟨Nat.le_of_ble_eq_true rfl, Nat.le_of_ble_eq_true rfl⟩) ⟨wx_blind, fun U hU hW => ⟨rfl, wx_at hE hJ hP hK hS hU hW⟩⟩ rfl rfl hl.1 rfl (lv_room (Nat.le_of_ble_eq_true rfl)) dJ0_indexOf_7cf53_17 ⟨Nat.le_of_ble_eq_true rfl, Nat.le_of_ble_eq_true rfl⟩) hS (fun H locs hP hS => ?_)
    have hP : ws_P (zD Z) vwCl 24 (za Z) (tM Z) σ12 H := hP
    refine lv_goto (tgt := 36) hx hb dJ0_indexOf_7cf53_20 (by decide) ?_
    exact xr_iret hx hb hr hlocks hE hJ hK hP hS h dJ0_indexOf_7cf53_36
def m_J0_indexOf_7cf53   (σ : SG) (p0 : Int32) (p1 : Int32) : Option (Int32 × SG) := m_J0_indexOf_7cf53_0   σ p0 p1
set_option maxHeartbeats 4000000 in
set_option maxRecDepth 100000 in
theorem k_J0_indexOf_7cf53 (l : Launch) (Z : ZT)    (σ : SG) (p0 : Int32) (p1 : Int32) {res : Int32 × SG} (h : m_J0_indexOf_7cf53   σ p0 p1 = some res) : Met l yJ0_indexOf_7cf53 wsJ0_indexOf_7cf53 rm_J0_indexOf_7cf53 (va_Pc [.ref (za Z 1000), .int p0, .int p1] (wx (EM Z) (zD Z) vwCl 24 (za Z) (tM Z) (tysM Z) σ)) (xQi (EM Z) (zD Z) vwCl 24 (za Z) (tM Z) (tysM Z) res) 0 0 (ws_A 24 (za Z)) := by
  refine Met.ofW (cc := cJ0_indexOf_7cf53) (maxL := 3) (ret := (some .int)) (by decide) rfl ?_
  intro p e s m args below meth c s₁ B hml hv
  obtain ⟨rfl, hE, hJ, hP, hK⟩ := hv
  have hl := lv_entry ([.ref (za Z 1000), .int p0, .int p1]) (n := 3) (Nat.le_of_ble_eq_true rfl)
  rw [lg_entry_eq]
  generalize (lg_sl ([.ref (za Z 1000), .int p0, .int p1]) ++ List.replicate (3 - (lg_sl ([.ref (za Z 1000), .int p0, .int p1])).length) Slot.unset).toArray = ls at hl ⊢
  exact kb_J0_indexOf_7cf53_0 Z    ⟨B.exec, B.bytes, B.returns, B.notSynchronized, hml, findClass_of_methodNamed B.named, atoms_spec (ws := wsJ0_indexOf_7cf53) B.pre, hE, hJ, hK⟩ σ p0 p1 h s.heap [] hP va_S.rf ls hl
/-! java/lang/String.indexOf(I)I -/
abbrev rm_J0_indexOf_0f7a4 : Room := { frames := 3, cells := 0, slots := 0, locals := 70 }
def m_J0_indexOf_0f7a4_0    (σ : SG) (p0 : Int32) : Option (Int32 × SG) :=
  bi (m_J0_indexOf_7cf53  σ p0 0) (fun v1 σ2 => some (v1, σ2))
set_option maxHeartbeats 4000000 in
set_option maxRecDepth 100000 in
theorem kb_J0_indexOf_0f7a4_0 {p : Program} {l : Launch} {e : Env} {s : State} {m : MethodId} {args : Array Value} {below : List Frame} {meth : Method} {c : Code} (Z : ZT)    (C : cy p s m args meth c cJ0_indexOf_0f7a4 (some .int) 2 RJ0 wsJ0_indexOf_0f7a4 (EM Z) (zD Z) vwCl 24 (za Z) (tysM Z)) {res : Int32 × SG}   : ∀ (σ : SG) (p0 : Int32) , m_J0_indexOf_0f7a4_0    σ p0 = some res → ∀ (H : Heap) (locs : List Loc), ws_P (zD Z) vwCl 24 (za Z) (tM Z) σ H → va_S (ws_A 24 (za Z)) s.heap H locs → ∀ (ls : Array Slot), lv_has ls 2 [(0, .ref (za Z 1000)), (1, .int p0)] → W p l e rm_J0_indexOf_0f7a4 s m args below meth c H locs 0 0 (MQ below (xQi (EM Z) (zD Z) vwCl 24 (za Z) (tM Z) (tysM Z) res) args s 0 0 (ws_A 24 (za Z))) (F0 m 0 ls []) := by
  have C0 := C
  obtain ⟨hx, hb, hr, hlocks, hml, hown, hts, hE, hJ, hK⟩ := C0
  intro σ p0  h H locs hP hS ls hl
  unfold m_J0_indexOf_0f7a4_0 at h
  refine lv_aload_n hx hb dJ0_indexOf_0f7a4_0 rfl (lv_at hl 0 rfl) ?_
  refine lv_iload_n hx hb dJ0_indexOf_0f7a4_1 rfl (lv_at hl 1 rfl) ?_
  refine lv_iconst (v := 0) hx hb dJ0_indexOf_0f7a4_2 (by decide) ?_
  obtain ⟨v1, σ2, hm3, h⟩ := bi_e h
  refine xr_calli (res := (v1, σ2)) (va_runV (As := [.int p0, .int 0]) (rest := []) ⟨hx, hb, hml, hown, hts⟩ (k_J0_indexOf_7cf53 l Z   σ p0 0 hm3) (cwV 2 hts gJ0_indexOf_0f7a4_J0_indexOf_7cf53 rfl rfl rfl (by decide +kernel) ⟨Nat.le_of_ble_eq_true rfl, Nat.le_of_ble_eq_true rfl⟩) ⟨wx_blind, vk_recv hE.2.2.1 (i := 0) (by decide) hS, fun U hU hW => ⟨rfl, wx_at hE hJ hP hK hS hU hW⟩⟩ rfl rfl hl.1 rfl (lv_room (Nat.le_of_ble_eq_true rfl)) dJ0_indexOf_0f7a4_3 ⟨Nat.le_of_ble_eq_true rfl, Nat.le_of_ble_eq_true rfl⟩) hS (fun H locs hP hS => ?_)
  have hP : ws_P (zD Z) vwCl 24 (za Z) (tM Z) σ2 H := hP
  exact xr_iret hx hb hr hlocks hE hJ hK hP hS h dJ0_indexOf_0f7a4_6
def m_J0_indexOf_0f7a4   (σ : SG) (p0 : Int32) : Option (Int32 × SG) := m_J0_indexOf_0f7a4_0   σ p0
set_option maxHeartbeats 4000000 in
set_option maxRecDepth 100000 in
theorem k_J0_indexOf_0f7a4 (l : Launch) (Z : ZT)    (σ : SG) (p0 : Int32) {res : Int32 × SG} (h : m_J0_indexOf_0f7a4   σ p0 = some res) : Met l yJ0_indexOf_0f7a4 wsJ0_indexOf_0f7a4 rm_J0_indexOf_0f7a4 (va_Pc [.ref (za Z 1000), .int p0] (wx (EM Z) (zD Z) vwCl 24 (za Z) (tM Z) (tysM Z) σ)) (xQi (EM Z) (zD Z) vwCl 24 (za Z) (tM Z) (tysM Z) res) 0 0 (ws_A 24 (za Z)) := by
  refine Met.ofW (cc := cJ0_indexOf_0f7a4) (maxL := 2) (ret := (some .int)) (by decide) rfl ?_
  intro p e s m args below meth c s₁ B hml hv
  obtain ⟨rfl, hE, hJ, hP, hK⟩ := hv
  have hl := lv_entry ([.ref (za Z 1000), .int p0]) (n := 2) (Nat.le_of_ble_eq_true rfl)
  rw [lg_entry_eq]
  generalize (lg_sl ([.ref (za Z 1000), .int p0]) ++ List.replicate (2 - (lg_sl ([.ref (za Z 1000), .int p0])).length) Slot.unset).toArray = ls at hl ⊢
  exact kb_J0_indexOf_0f7a4_0 Z    ⟨B.exec, B.bytes, B.returns, B.notSynchronized, hml, findClass_of_methodNamed B.named, atoms_spec (ws := wsJ0_indexOf_0f7a4) B.pre, hE, hJ, hK⟩ σ p0 h s.heap [] hP va_S.rf ls hl
/-! TuneSearchModel.next()V -/
abbrev rm_X12_next : Room := { frames := 4, cells := 0, slots := 0, locals := 91 }
theorem in_X12_next_X12 : ∀ w ∈ wsX120, w ∈ wsX12_next := by decide +kernel
def m_X12_next_218    (σ : SG) (l3 : Int32) (s0 : Int32) : Option (Unit × SG) :=
  lS (sI σ 0 11 s0) (fun σ47 => if l3 ≤ 3 then (lS (sI σ47 0 9 1) (fun σ50 => some ((), σ50))) else (lS (sI σ47 0 9 3) (fun σ52 => some ((), σ52))))
set_option maxHeartbeats 4000000 in
set_option maxRecDepth 100000 in
theorem kb_X12_next_218 {p : Program} {l : Launch} {e : Env} {s : State} {m : MethodId} {args : Array Value} {below : List Frame} {meth : Method} {c : Code} (Z : ZT)    (C : cy p s m args meth c cX12_next none 4 RX12 wsX12_next (EM Z) (zD Z) vwCl 24 (za Z) (tysM Z)) {res : Unit × SG}   : ∀ (σ : SG) (l3 : Int32) (s0 : Int32) , m_X12_next_218    σ l3 s0 = some res → ∀ (H : Heap) (locs : List Loc), ws_P (zD Z) vwCl 24 (za Z) (tM Z) σ H → va_S (ws_A 24 (za Z)) s.heap H locs → ∀ (ls : Array Slot), lv_has ls 4 [(0, .ref (za Z 0)), (3, .int l3)] → W p l e rm_X12_next s m args below meth c H locs 0 0 (MQ below (xQv (EM Z) (zD Z) vwCl 24 (za Z) (tM Z) (tysM Z) res) args s 0 0 (ws_A 24 (za Z))) (F0 m 218 ls [.int s0, .ref (za Z 0)]) := by
  have C0 := C
  obtain ⟨hx, hb, hr, hlocks, hml, hown, hts, hE, hJ, hK⟩ := C0
  intro σ l3 s0  h H locs hP hS ls hl
  unfold m_X12_next_218 at h
  refine wr_put (C := RX12) (T := TX12) (N := 41) (σ' := sI σ 0 11 s0) (ty := .int) hx hb hts (in_X12_next_X12) tyX12 tyX12_ok nmX12 hown hK hP hJ hS (k := 0) (by decide) ((tM_0 Z) _ _ _) rfl 11 (by decide) (hts (.fieldLink RX12 116 "TuneSearchModel" "what" "I") (by decide +kernel)) (fun _ h9 => h9) rfl (by decide +kernel) rfl rfl (Nat.le_of_ble_eq_true rfl) (ws_pI (tM_0 Z) rfl) dX12_next_218 (fun H locs hP hS => ?_)
  obtain ⟨σ47, e48, h⟩ := lS_e h
  rw [← e48] at hP
  refine lv_aload_n hx hb dX12_next_221 rfl (lv_at hl 0 rfl) ?_
  refine lv_iload_n hx hb dX12_next_222 rfl (lv_at hl 1 rfl) ?_
  refine lv_iconst (v := 3) hx hb dX12_next_223 (by decide) ?_
  refine lv_icmp_le (tgt := 231) hx hb dX12_next_224 (by decide) (fun q49 => ?_) (fun q49 => ?_)
  · have h := if_p h q49
    refine lv_iconst (v := 1) hx hb dX12_next_231 (by decide) ?_
    refine wr_put (C := RX12) (T := TX12) (N := 41) (σ' := sI σ47 0 9 1) (ty := .int) hx hb hts (in_X12_next_X12) tyX12 tyX12_ok nmX12 hown hK hP hJ hS (k := 0) (by decide) ((tM_0 Z) _ _ _) rfl 9 (by decide) (hts (.fieldLink RX12 110 "TuneSearchModel" "token" "I") (by decide +kernel)) (fun _ h9 => h9) rfl (by decide +kernel) rfl rfl (Nat.le_of_ble_eq_true rfl) (ws_pI (tM_0 Z) rfl) dX12_next_232 (fun H locs hP hS => ?_)
    obtain ⟨σ50, e51, h⟩ := lS_e h
    rw [← e51] at hP
    refine lv_goto (tgt := 275) hx hb dX12_next_235 (by decide) ?_
    exact xr_vret hx hb hr hlocks hE hJ hK hP hS h dX12_next_275
  · have h := if_n h q49
    refine lv_iconst (v := 3) hx hb dX12_next_227 (by decide) ?_
    refine lv_goto (tgt := 232) hx hb dX12_next_228 (by decide) ?_
    refine wr_put (C := RX12) (T := TX12) (N := 41) (σ' := sI σ47 0 9 3) (ty := .int) hx hb hts (in_X12_next_X12) tyX12 tyX12_ok nmX12 hown hK hP hJ hS (k := 0) (by decide) ((tM_0 Z) _ _ _) rfl 9 (by decide) (hts (.fieldLink RX12 110 "TuneSearchModel" "token" "I") (by decide +kernel)) (fun _ h9 => h9) rfl (by decide +kernel) rfl rfl (Nat.le_of_ble_eq_true rfl) (ws_pI (tM_0 Z) rfl) dX12_next_232 (fun H locs hP hS => ?_)
    obtain ⟨σ52, e53, h⟩ := lS_e h
    rw [← e53] at hP
    refine lv_goto (tgt := 275) hx hb dX12_next_235 (by decide) ?_
    exact xr_vret hx hb hr hlocks hE hJ hK hP hS h dX12_next_275
def m_X12_next_182   (c138 : SG → Int32 → Int32 → Option (Unit × SG)) (σ : SG) (l2 : Int32) (l3 : Int32) (s0 : Int32) : Option (Unit × SG) :=
  lS (sI σ 0 11 s0) (fun σ54 => lS (l3 + 1) (fun v56 => lS (sI σ54 0 8 ((σ54.1 0 8) + 1)) (fun σ58 => c138 σ58 l2 v56)))
set_option maxHeartbeats 4000000 in
set_option maxRecDepth 100000 in
theorem kb_X12_next_182 {p : Program} {l : Launch} {e : Env} {s : State} {m : MethodId} {args : Array Value} {below : List Frame} {meth : Method} {c : Code} (Z : ZT)    (C : cy p s m args meth c cX12_next none 4 RX12 wsX12_next (EM Z) (zD Z) vwCl 24 (za Z) (tysM Z)) {res : Unit × SG} {c138 : SG → Int32 → Int32 → Option (Unit × SG)} (hc138 : ∀ (σ : SG) (l2 : Int32) (l3 : Int32) , c138 σ l2 l3 = some res → ∀ (H : Heap) (locs : List Loc), ws_P (zD Z) vwCl 24 (za Z) (tM Z) σ H → va_S (ws_A 24 (za Z)) s.heap H locs → ∀ (ls : Array Slot), lv_has ls 4 [(0, .ref (za Z 0)), (2, .int l2), (3, .int l3)] → W p l e rm_X12_next s m args below meth c H locs 0 0 (MQ below (xQv (EM Z) (zD Z) vwCl 24 (za Z) (tM Z) (tysM Z) res) args s 0 0 (ws_A 24 (za Z))) (F0 m 138 ls [])) : ∀ (σ : SG) (l2 : Int32) (l3 : Int32) (s0 : Int32) , m_X12_next_182   c138 σ l2 l3 s0 = some res → ∀ (H : Heap) (locs : List Loc), ws_P (zD Z) vwCl 24 (za Z) (tM Z) σ H → va_S (ws_A 24 (za Z)) s.heap H locs → ∀ (ls : Array Slot), lv_has ls 4 [(0, .ref (za Z 0)), (2, .int l2), (3, .int l3)] → W p l e rm_X12_next s m args below meth c H locs 0 0 (MQ below (xQv (EM Z) (zD Z) vwCl 24 (za Z) (tM Z) (tysM Z) res) args s 0 0 (ws_A 24 (za Z))) (F0 m 182 ls [.int s0, .ref (za Z 0)]) := by
  have C0 := C
  obtain ⟨hx, hb, hr, hlocks, hml, hown, hts, hE, hJ, hK⟩ := C0
  intro σ l2 l3 s0  h H locs hP hS ls hl
  unfold m_X12_next_182 at h
  refine wr_put (C := RX12) (T := TX12) (N := 41) (σ' := sI σ 0 11 s0) (ty := .int) hx hb hts (in_X12_next_X12) tyX12 tyX12_ok nmX12 hown hK hP hJ hS (k := 0) (by decide) ((tM_0 Z) _ _ _) rfl 11 (by decide) (hts (.fieldLink RX12 116 "TuneSearchModel" "what" "I") (by decide +kernel)) (fun _ h9 => h9) rfl (by decide +kernel) rfl rfl (Nat.le_of_ble_eq_true rfl) (ws_pI (tM_0 Z) rfl) dX12_next_182 (fun H locs hP hS => ?_)
  obtain ⟨σ54, e55, h⟩ := lS_e h
  rw [← e55] at hP
  obtain ⟨v56, e57, h⟩ := lS_e h
  refine lv_iinc (v := v56) (lv' := [(3, .int v56), (0, .ref (za Z 0)), (2, .int l2)]) hx hb dX12_next_185 hl (k := 2) rfl (by rw [e57]; rfl) (by decide) rfl (fun ls hl => ?_)
  refine lv_aload_n hx hb dX12_next_188 rfl (lv_at hl 1 rfl) ?_
  refine lv_dup hx hb dX12_next_189 rfl ?_
  refine wr_get (C := RX12) (T := TX12) (N := 41) hx hb hts (in_X12_next_X12) hown hK hP (k := 0) (by decide) ((tM_0 Z) _ _ _) rfl 8 (by decide) (hts (.fieldLink RX12 104 "TuneSearchModel" "pos" "I") (by decide +kernel)) (fun _ h9 => h9) rfl dX12_next_190 ?_
  refine lv_iconst (v := 1) hx hb dX12_next_193 (by decide) ?_
  refine lv_iadd hx hb dX12_next_194 ?_
  refine wr_put (C := RX12) (T := TX12) (N := 41) (σ' := sI σ54 0 8 ((σ54.1 0 8) + 1)) (ty := .int) hx hb hts (in_X12_next_X12) tyX12 tyX12_ok nmX12 hown hK hP hJ hS (k := 0) (by decide) ((tM_0 Z) _ _ _) rfl 8 (by decide) (hts (.fieldLink RX12 104 "TuneSearchModel" "pos" "I") (by decide +kernel)) (fun _ h9 => h9) rfl (by decide +kernel) rfl rfl (Nat.le_of_ble_eq_true rfl) (ws_pI (tM_0 Z) rfl) dX12_next_195 (fun H locs hP hS => ?_)
  obtain ⟨σ58, e59, h⟩ := lS_e h
  rw [← e59] at hP
  refine lv_goto (tgt := 138) hx hb dX12_next_198 (by decide) ?_
  exact hc138 σ58 l2 v56 h H locs hP hS ls (lv_sub hl [1, 2, 0] rfl)
def m_X12_next_138_s    (c138 : SG → Int32 → Int32 → Option (Unit × SG)) (σ : SG) (l2 : Int32) (l3 : Int32) : Option (Unit × SG) :=
  bi (m_X12_isDigit  σ (σ.1 0 8)) (fun v40 σ41 => if v40 = 0 then (if l2 = 0 then (m_X12_next_218    σ41 l3 (σ41.1 0 11)) else (m_X12_next_218    σ41 l3 (-(σ41.1 0 11)))) else (if 3 ≤ l3 then (m_X12_next_182   c138 σ41 l2 l3 (σ41.1 0 11)) else (gB (inB (σ41.1 0 8) 160) (m_X12_next_182   c138 σ41 l2 l3 (((10 * (σ41.1 0 11)) + (σ41.1 5 (σ41.1 0 8).toNatClampNeg)) - 48)))))
def m_X12_next_138    : Nat → SG → Int32 → Int32 → Option (Unit × SG)
  | 0, _, _, _ => none
  | n + 1, σ, l2, l3 => m_X12_next_138_s    (m_X12_next_138    n) σ l2 l3
set_option maxHeartbeats 4000000 in
set_option maxRecDepth 100000 in
theorem kb_X12_next_138 {p : Program} {l : Launch} {e : Env} {s : State} {m : MethodId} {args : Array Value} {below : List Frame} {meth : Method} {c : Code} (Z : ZT)    (C : cy p s m args meth c cX12_next none 4 RX12 wsX12_next (EM Z) (zD Z) vwCl 24 (za Z) (tysM Z)) {res : Unit × SG}   : ∀ (n : Nat) (σ : SG) (l2 : Int32) (l3 : Int32) , m_X12_next_138    n σ l2 l3 = some res → ∀ (H : Heap) (locs : List Loc), ws_P (zD Z) vwCl 24 (za Z) (tM Z) σ H → va_S (ws_A 24 (za Z)) s.heap H locs → ∀ (ls : Array Slot), lv_has ls 4 [(0, .ref (za Z 0)), (2, .int l2), (3, .int l3)] → W p l e rm_X12_next s m args below meth c H locs 0 0 (MQ below (xQv (EM Z) (zD Z) vwCl 24 (za Z) (tM Z) (tysM Z) res) args s 0 0 (ws_A 24 (za Z))) (F0 m 138 ls []) := by
  have C0 := C
  obtain ⟨hx, hb, hr, hlocks, hml, hown, hts, hE, hJ, hK⟩ := C0
  intro n
  induction n with
  | zero =>
    intro σ l2 l3  h
    cases h
  | succ n ih =>
    intro σ l2 l3  h H locs hP hS ls hl
    have hc138 : ∀ (σ : SG) (l2 : Int32) (l3 : Int32) , m_X12_next_138    n σ l2 l3 = some res → ∀ (H : Heap) (locs : List Loc), ws_P (zD Z) vwCl 24 (za Z) (tM Z) σ H → va_S (ws_A 24 (za Z)) s.heap H locs → ∀ (ls : Array Slot), lv_has ls 4 [(0, .ref (za Z 0)), (2, .int l2), (3, .int l3)] → W p l e rm_X12_next s m args below meth c H locs 0 0 (MQ below (xQv (EM Z) (zD Z) vwCl 24 (za Z) (tM Z) (tysM Z) res) args s 0 0 (ws_A 24 (za Z))) (F0 m 138 ls []) := ih
    have h : m_X12_next_138_s    (m_X12_next_138    n) σ l2 l3 = some res := h
    unfold m_X12_next_138_s at h
    refine lv_aload_n hx hb dX12_next_138 rfl (lv_at hl 0 rfl) ?_
    refine lv_aload_n hx hb dX12_next_139 rfl (lv_at hl 0 rfl) ?_
    refine wr_get (C := RX12) (T := TX12) (N := 41) hx hb hts (in_X12_next_X12) hown hK hP (k := 0) (by decide) ((tM_0 Z) _ _ _) rfl 8 (by decide) (hts (.fieldLink RX12 104 "TuneSearchModel" "pos" "I") (by decide +kernel)) (fun _ h9 => h9) rfl dX12_next_140 ?_
    obtain ⟨v40, σ41, hm42, h⟩ := bi_e h
    refine xr_calli (res := (v40, σ41)) (va_runV (As := [.int (σ.1 0 8)]) (rest := []) ⟨hx, hb, hml, hown, hts⟩ (k_X12_isDigit l Z   σ (σ.1 0 8) hm42) (cwV 1 hts gX12_next_X12_isDigit rfl rfl rfl (by decide +kernel) ⟨Nat.le_of_ble_eq_true rfl, Nat.le_of_ble_eq_true rfl⟩) ⟨wx_blind, wr_recv hK hP (k := 0) (by decide) ((tM_0 Z) _ _ _) rfl, fun U hU hW => ⟨rfl, wx_at hE hJ hP hK hS hU hW⟩⟩ rfl rfl hl.1 rfl (lv_room (Nat.le_of_ble_eq_true rfl)) dX12_next_143 ⟨Nat.le_of_ble_eq_true rfl, Nat.le_of_ble_eq_true rfl⟩) hS (fun H locs hP hS => ?_)
    have hP : ws_P (zD Z) vwCl 24 (za Z) (tM Z) σ41 H := hP
    refine lv_if_eq (tgt := 201) hx hb dX12_next_146 (by decide) (fun q43 => ?_) (fun q43 => ?_)
    · have h := if_p h q43
      refine lv_aload_n hx hb dX12_next_201 rfl (lv_at hl 0 rfl) ?_
      refine lv_iload_n hx hb dX12_next_202 rfl (lv_at hl 1 rfl) ?_
      refine lv_if_eq (tgt := 214) hx hb dX12_next_203 (by decide) (fun q44 => ?_) (fun q44 => ?_)
      · have h := if_p h q44
        refine lv_aload_n hx hb dX12_next_214 rfl (lv_at hl 0 rfl) ?_
        refine wr_get (C := RX12) (T := TX12) (N := 41) hx hb hts (in_X12_next_X12) hown hK hP (k := 0) (by decide) ((tM_0 Z) _ _ _) rfl 11 (by decide) (hts (.fieldLink RX12 116 "TuneSearchModel" "what" "I") (by decide +kernel)) (fun _ h9 => h9) rfl dX12_next_215 ?_
        exact kb_X12_next_218 Z    C   σ41 l3 (σ41.1 0 11) h H locs hP hS ls (lv_sub hl [0, 2] rfl)
      · have h := if_n h q44
        refine lv_aload_n hx hb dX12_next_206 rfl (lv_at hl 0 rfl) ?_
        refine wr_get (C := RX12) (T := TX12) (N := 41) hx hb hts (in_X12_next_X12) hown hK hP (k := 0) (by decide) ((tM_0 Z) _ _ _) rfl 11 (by decide) (hts (.fieldLink RX12 116 "TuneSearchModel" "what" "I") (by decide +kernel)) (fun _ h9 => h9) rfl dX12_next_207 ?_
        refine lv_ineg hx hb dX12_next_210 ?_
        refine lv_goto (tgt := 218) hx hb dX12_next_211 (by decide) ?_
        exact kb_X12_next_218 Z    C   σ41 l3 (-(σ41.1 0 11)) h H locs hP hS ls (lv_sub hl [0, 2] rfl)
    · have h := if_n h q43
      refine lv_aload_n hx hb dX12_next_149 rfl (lv_at hl 0 rfl) ?_
      refine lv_iload_n hx hb dX12_next_150 rfl (lv_at hl 2 rfl) ?_
      refine lv_iconst (v := 3) hx hb dX12_next_151 (by decide) ?_
      refine lv_icmp_ge (tgt := 178) hx hb dX12_next_152 (by decide) (fun q45 => ?_) (fun q45 => ?_)
      · have h := if_p h q45
        refine lv_aload_n hx hb dX12_next_178 rfl (lv_at hl 0 rfl) ?_
        refine wr_get (C := RX12) (T := TX12) (N := 41) hx hb hts (in_X12_next_X12) hown hK hP (k := 0) (by decide) ((tM_0 Z) _ _ _) rfl 11 (by decide) (hts (.fieldLink RX12 116 "TuneSearchModel" "what" "I") (by decide +kernel)) (fun _ h9 => h9) rfl dX12_next_179 ?_
        exact kb_X12_next_182 Z    C  hc138 σ41 l2 l3 (σ41.1 0 11) h H locs hP hS ls (lv_sub hl [0, 1, 2] rfl)
      · have h := if_n h q45
        refine lv_bipush (v := 10) hx hb dX12_next_155 (by decide) ?_
        refine lv_aload_n hx hb dX12_next_157 rfl (lv_at hl 0 rfl) ?_
        refine wr_get (C := RX12) (T := TX12) (N := 41) hx hb hts (in_X12_next_X12) hown hK hP (k := 0) (by decide) ((tM_0 Z) _ _ _) rfl 11 (by decide) (hts (.fieldLink RX12 116 "TuneSearchModel" "what" "I") (by decide +kernel)) (fun _ h9 => h9) rfl dX12_next_158 ?_
        refine lv_imul hx hb dX12_next_161 ?_
        refine lv_aload_n hx hb dX12_next_162 rfl (lv_at hl 0 rfl) ?_
        refine wr_get (C := RX12) (T := TX12) (N := 41) hx hb hts (in_X12_next_X12) hown hK hP (k := 0) (by decide) ((tM_0 Z) _ _ _) rfl 6 (by decide) (hts (.fieldLink RX12 24 "TuneSearchModel" "tape" "[B") (by decide +kernel)) (fun _ h9 => h9) rfl dX12_next_163 ?_
        refine lv_aload_n hx hb dX12_next_166 rfl (lv_at hl 0 rfl) ?_
        refine wr_get (C := RX12) (T := TX12) (N := 41) hx hb hts (in_X12_next_X12) hown hK hP (k := 0) (by decide) ((tM_0 Z) _ _ _) rfl 8 (by decide) (hts (.fieldLink RX12 104 "TuneSearchModel" "pos" "I") (by decide +kernel)) (fun _ h9 => h9) rfl dX12_next_167 ?_
        obtain ⟨b46, h⟩ := gB_e h
        refine wr_bald hx hb hK hP (k := 5) (by decide) 2 ((tM_5 Z) _ _ _) rfl b46 dX12_next_170 ?_
        refine lv_iadd hx hb dX12_next_171 ?_
        refine lv_bipush (v := 48) hx hb dX12_next_172 (by decide) ?_
        refine lv_isub hx hb dX12_next_174 ?_
        refine lv_goto (tgt := 182) hx hb dX12_next_175 (by decide) ?_
        exact kb_X12_next_182 Z    C  hc138 σ41 l2 l3 (((10 * (σ41.1 0 11)) + (σ41.1 5 (σ41.1 0 8).toNatClampNeg)) - 48) h H locs hP hS ls (lv_sub hl [0, 1, 2] rfl)
def m_X12_next_127    (σ : SG) (l2 : Int32) (s0 : Int32) (s1 : Int32) : Option (Unit × SG) :=
  lS (sI σ 0 8 (s1 + s0)) (fun σ32 => lS (sI σ32 0 11 0) (fun σ34 => m_X12_next_138    FV σ34 l2 0))
set_option maxHeartbeats 4000000 in
set_option maxRecDepth 100000 in
theorem kb_X12_next_127 {p : Program} {l : Launch} {e : Env} {s : State} {m : MethodId} {args : Array Value} {below : List Frame} {meth : Method} {c : Code} (Z : ZT)    (C : cy p s m args meth c cX12_next none 4 RX12 wsX12_next (EM Z) (zD Z) vwCl 24 (za Z) (tysM Z)) {res : Unit × SG}   : ∀ (σ : SG) (l2 : Int32) (s0 : Int32) (s1 : Int32) , m_X12_next_127    σ l2 s0 s1 = some res → ∀ (H : Heap) (locs : List Loc), ws_P (zD Z) vwCl 24 (za Z) (tM Z) σ H → va_S (ws_A 24 (za Z)) s.heap H locs → ∀ (ls : Array Slot), lv_has ls 4 [(0, .ref (za Z 0)), (2, .int l2)] → W p l e rm_X12_next s m args below meth c H locs 0 0 (MQ below (xQv (EM Z) (zD Z) vwCl 24 (za Z) (tM Z) (tysM Z) res) args s 0 0 (ws_A 24 (za Z))) (F0 m 127 ls [.int s0, .int s1, .ref (za Z 0)]) := by
  have C0 := C
  obtain ⟨hx, hb, hr, hlocks, hml, hown, hts, hE, hJ, hK⟩ := C0
  intro σ l2 s0 s1  h H locs hP hS ls hl
  unfold m_X12_next_127 at h
  refine lv_iadd hx hb dX12_next_127 ?_
  refine wr_put (C := RX12) (T := TX12) (N := 41) (σ' := sI σ 0 8 (s1 + s0)) (ty := .int) hx hb hts (in_X12_next_X12) tyX12 tyX12_ok nmX12 hown hK hP hJ hS (k := 0) (by decide) ((tM_0 Z) _ _ _) rfl 8 (by decide) (hts (.fieldLink RX12 104 "TuneSearchModel" "pos" "I") (by decide +kernel)) (fun _ h9 => h9) rfl (by decide +kernel) rfl rfl (Nat.le_of_ble_eq_true rfl) (ws_pI (tM_0 Z) rfl) dX12_next_128 (fun H locs hP hS => ?_)
  obtain ⟨σ32, e33, h⟩ := lS_e h
  rw [← e33] at hP
  refine lv_iconst (v := 0) hx hb dX12_next_131 (by decide) ?_
  refine lv_istore_n (lv' := [(3, .int 0), (0, .ref (za Z 0)), (2, .int l2)]) hx hb dX12_next_132 rfl hl (by decide) rfl (fun ls hl => ?_)
  refine lv_aload_n hx hb dX12_next_133 rfl (lv_at hl 1 rfl) ?_
  refine lv_iconst (v := 0) hx hb dX12_next_134 (by decide) ?_
  refine wr_put (C := RX12) (T := TX12) (N := 41) (σ' := sI σ32 0 11 0) (ty := .int) hx hb hts (in_X12_next_X12) tyX12 tyX12_ok nmX12 hown hK hP hJ hS (k := 0) (by decide) ((tM_0 Z) _ _ _) rfl 11 (by decide) (hts (.fieldLink RX12 116 "TuneSearchModel" "what" "I") (by decide +kernel)) (fun _ h9 => h9) rfl (by decide +kernel) rfl rfl (Nat.le_of_ble_eq_true rfl) (ws_pI (tM_0 Z) rfl) dX12_next_135 (fun H locs hP hS => ?_)
  obtain ⟨σ34, e35, h⟩ := lS_e h
  rw [← e35] at hP
  exact kb_X12_next_138 Z    C   FV σ34 l2 0 h H locs hP hS ls (lv_sub hl [1, 2, 0] rfl)
def m_X12_next_113    (σ : SG) (l2 : Int32) : Option (Unit × SG) :=
  if l2 = 0 then (m_X12_next_127    σ l2 0 (σ.1 0 8)) else (m_X12_next_127    σ l2 1 (σ.1 0 8))
set_option maxHeartbeats 4000000 in
set_option maxRecDepth 100000 in
theorem kb_X12_next_113 {p : Program} {l : Launch} {e : Env} {s : State} {m : MethodId} {args : Array Value} {below : List Frame} {meth : Method} {c : Code} (Z : ZT)    (C : cy p s m args meth c cX12_next none 4 RX12 wsX12_next (EM Z) (zD Z) vwCl 24 (za Z) (tysM Z)) {res : Unit × SG}   : ∀ (σ : SG) (l2 : Int32) , m_X12_next_113    σ l2 = some res → ∀ (H : Heap) (locs : List Loc), ws_P (zD Z) vwCl 24 (za Z) (tM Z) σ H → va_S (ws_A 24 (za Z)) s.heap H locs → ∀ (ls : Array Slot), lv_has ls 4 [(0, .ref (za Z 0)), (2, .int l2)] → W p l e rm_X12_next s m args below meth c H locs 0 0 (MQ below (xQv (EM Z) (zD Z) vwCl 24 (za Z) (tM Z) (tysM Z) res) args s 0 0 (ws_A 24 (za Z))) (F0 m 113 ls []) := by
  have C0 := C
  obtain ⟨hx, hb, hr, hlocks, hml, hown, hts, hE, hJ, hK⟩ := C0
  intro σ l2  h H locs hP hS ls hl
  unfold m_X12_next_113 at h
  refine lv_aload_n hx hb dX12_next_113 rfl (lv_at hl 0 rfl) ?_
  refine lv_dup hx hb dX12_next_114 rfl ?_
  refine wr_get (C := RX12) (T := TX12) (N := 41) hx hb hts (in_X12_next_X12) hown hK hP (k := 0) (by decide) ((tM_0 Z) _ _ _) rfl 8 (by decide) (hts (.fieldLink RX12 104 "TuneSearchModel" "pos" "I") (by decide +kernel)) (fun _ h9 => h9) rfl dX12_next_115 ?_
  refine lv_iload_n hx hb dX12_next_118 rfl (lv_at hl 1 rfl) ?_
  refine lv_if_eq (tgt := 126) hx hb dX12_next_119 (by decide) (fun q24 => ?_) (fun q24 => ?_)
  · have h := if_p h q24
    refine lv_iconst (v := 0) hx hb dX12_next_126 (by decide) ?_
    exact kb_X12_next_127 Z    C   σ l2 0 (σ.1 0 8) h H locs hP hS ls (lv_sub hl [0, 1] rfl)
  · have h := if_n h q24
    refine lv_iconst (v := 1) hx hb dX12_next_122 (by decide) ?_
    refine lv_goto (tgt := 127) hx hb dX12_next_123 (by decide) ?_
    exact kb_X12_next_127 Z    C   σ l2 1 (σ.1 0 8) h H locs hP hS ls (lv_sub hl [0, 1] rfl)
def m_X12_next_262    (σ : SG) (s0 : Int32) : Option (Unit × SG) :=
  lS (sI σ 0 9 s0) (fun σ36 => lS (sI σ36 0 8 ((σ36.1 0 8) + 1)) (fun σ38 => some ((), σ38)))
set_option maxHeartbeats 4000000 in
set_option maxRecDepth 100000 in
theorem kb_X12_next_262 {p : Program} {l : Launch} {e : Env} {s : State} {m : MethodId} {args : Array Value} {below : List Frame} {meth : Method} {c : Code} (Z : ZT)    (C : cy p s m args meth c cX12_next none 4 RX12 wsX12_next (EM Z) (zD Z) vwCl 24 (za Z) (tysM Z)) {res : Unit × SG}   : ∀ (σ : SG) (s0 : Int32) , m_X12_next_262    σ s0 = some res → ∀ (H : Heap) (locs : List Loc), ws_P (zD Z) vwCl 24 (za Z) (tM Z) σ H → va_S (ws_A 24 (za Z)) s.heap H locs → ∀ (ls : Array Slot), lv_has ls 4 [(0, .ref (za Z 0))] → W p l e rm_X12_next s m args below meth c H locs 0 0 (MQ below (xQv (EM Z) (zD Z) vwCl 24 (za Z) (tM Z) (tysM Z) res) args s 0 0 (ws_A 24 (za Z))) (F0 m 262 ls [.int s0, .ref (za Z 0)]) := by
  have C0 := C
  obtain ⟨hx, hb, hr, hlocks, hml, hown, hts, hE, hJ, hK⟩ := C0
  intro σ s0  h H locs hP hS ls hl
  unfold m_X12_next_262 at h
  refine wr_put (C := RX12) (T := TX12) (N := 41) (σ' := sI σ 0 9 s0) (ty := .int) hx hb hts (in_X12_next_X12) tyX12 tyX12_ok nmX12 hown hK hP hJ hS (k := 0) (by decide) ((tM_0 Z) _ _ _) rfl 9 (by decide) (hts (.fieldLink RX12 110 "TuneSearchModel" "token" "I") (by decide +kernel)) (fun _ h9 => h9) rfl (by decide +kernel) rfl rfl (Nat.le_of_ble_eq_true rfl) (ws_pI (tM_0 Z) rfl) dX12_next_262 (fun H locs hP hS => ?_)
  obtain ⟨σ36, e37, h⟩ := lS_e h
  rw [← e37] at hP
  refine lv_aload_n hx hb dX12_next_265 rfl (lv_at hl 0 rfl) ?_
  refine lv_dup hx hb dX12_next_266 rfl ?_
  refine wr_get (C := RX12) (T := TX12) (N := 41) hx hb hts (in_X12_next_X12) hown hK hP (k := 0) (by decide) ((tM_0 Z) _ _ _) rfl 8 (by decide) (hts (.fieldLink RX12 104 "TuneSearchModel" "pos" "I") (by decide +kernel)) (fun _ h9 => h9) rfl dX12_next_267 ?_
  refine lv_iconst (v := 1) hx hb dX12_next_270 (by decide) ?_
  refine lv_iadd hx hb dX12_next_271 ?_
  refine wr_put (C := RX12) (T := TX12) (N := 41) (σ' := sI σ36 0 8 ((σ36.1 0 8) + 1)) (ty := .int) hx hb hts (in_X12_next_X12) tyX12 tyX12_ok nmX12 hown hK hP hJ hS (k := 0) (by decide) ((tM_0 Z) _ _ _) rfl 8 (by decide) (hts (.fieldLink RX12 104 "TuneSearchModel" "pos" "I") (by decide +kernel)) (fun _ h9 => h9) rfl (by decide +kernel) rfl rfl (Nat.le_of_ble_eq_true rfl) (ws_pI (tM_0 Z) rfl) dX12_next_272 (fun H locs hP hS => ?_)
  obtain ⟨σ38, e39, h⟩ := lS_e h
  rw [← e39] at hP
  exact xr_vret hx hb hr hlocks hE hJ hK hP hS h dX12_next_275
def m_X12_next_261    (σ : SG)  : Option (Unit × SG) :=
  m_X12_next_262    σ 3
set_option maxHeartbeats 4000000 in
set_option maxRecDepth 100000 in
theorem kb_X12_next_261 {p : Program} {l : Launch} {e : Env} {s : State} {m : MethodId} {args : Array Value} {below : List Frame} {meth : Method} {c : Code} (Z : ZT)    (C : cy p s m args meth c cX12_next none 4 RX12 wsX12_next (EM Z) (zD Z) vwCl 24 (za Z) (tysM Z)) {res : Unit × SG}   : ∀ (σ : SG)  , m_X12_next_261    σ  = some res → ∀ (H : Heap) (locs : List Loc), ws_P (zD Z) vwCl 24 (za Z) (tM Z) σ H → va_S (ws_A 24 (za Z)) s.heap H locs → ∀ (ls : Array Slot), lv_has ls 4 [(0, .ref (za Z 0))] → W p l e rm_X12_next s m args below meth c H locs 0 0 (MQ below (xQv (EM Z) (zD Z) vwCl 24 (za Z) (tM Z) (tysM Z) res) args s 0 0 (ws_A 24 (za Z))) (F0 m 261 ls [.ref (za Z 0)]) := by
  have C0 := C
  obtain ⟨hx, hb, hr, hlocks, hml, hown, hts, hE, hJ, hK⟩ := C0
  intro σ   h H locs hP hS ls hl
  unfold m_X12_next_261 at h
  refine lv_iconst (v := 3) hx hb dX12_next_261 (by decide) ?_
  exact kb_X12_next_262 Z    C   σ 3 h H locs hP hS ls (lv_sub hl [0] rfl)
def m_X12_next_238    (σ : SG) (l1 : Int32) : Option (Unit × SG) :=
  lS (sI σ 0 11 l1) (fun σ25 => if l1 ≤ 0 then (m_X12_next_261    σ25 ) else (bi (m_J0_indexOf_0f7a4  σ25 l1) (fun v28 σ29 => if v28 < 0 then (m_X12_next_261    σ29 ) else (m_X12_next_262    σ29 2))))
set_option maxHeartbeats 4000000 in
set_option maxRecDepth 100000 in
theorem kb_X12_next_238 {p : Program} {l : Launch} {e : Env} {s : State} {m : MethodId} {args : Array Value} {below : List Frame} {meth : Method} {c : Code} (Z : ZT)    (C : cy p s m args meth c cX12_next none 4 RX12 wsX12_next (EM Z) (zD Z) vwCl 24 (za Z) (tysM Z)) {res : Unit × SG}   : ∀ (σ : SG) (l1 : Int32) , m_X12_next_238    σ l1 = some res → ∀ (H : Heap) (locs : List Loc), ws_P (zD Z) vwCl 24 (za Z) (tM Z) σ H → va_S (ws_A 24 (za Z)) s.heap H locs → ∀ (ls : Array Slot), lv_has ls 4 [(0, .ref (za Z 0)), (1, .int l1)] → W p l e rm_X12_next s m args below meth c H locs 0 0 (MQ below (xQv (EM Z) (zD Z) vwCl 24 (za Z) (tM Z) (tysM Z) res) args s 0 0 (ws_A 24 (za Z))) (F0 m 238 ls []) := by
  have C0 := C
  obtain ⟨hx, hb, hr, hlocks, hml, hown, hts, hE, hJ, hK⟩ := C0
  intro σ l1  h H locs hP hS ls hl
  unfold m_X12_next_238 at h
  refine lv_aload_n hx hb dX12_next_238 rfl (lv_at hl 0 rfl) ?_
  refine lv_iload_n hx hb dX12_next_239 rfl (lv_at hl 1 rfl) ?_
  refine wr_put (C := RX12) (T := TX12) (N := 41) (σ' := sI σ 0 11 l1) (ty := .int) hx hb hts (in_X12_next_X12) tyX12 tyX12_ok nmX12 hown hK hP hJ hS (k := 0) (by decide) ((tM_0 Z) _ _ _) rfl 11 (by decide) (hts (.fieldLink RX12 116 "TuneSearchModel" "what" "I") (by decide +kernel)) (fun _ h9 => h9) rfl (by decide +kernel) rfl rfl (Nat.le_of_ble_eq_true rfl) (ws_pI (tM_0 Z) rfl) dX12_next_240 (fun H locs hP hS => ?_)
  obtain ⟨σ25, e26, h⟩ := lS_e h
  rw [← e26] at hP
  refine lv_aload_n hx hb dX12_next_243 rfl (lv_at hl 0 rfl) ?_
  refine lv_iload_n hx hb dX12_next_244 rfl (lv_at hl 1 rfl) ?_
  refine lv_if_le (tgt := 261) hx hb dX12_next_245 (by decide) (fun q27 => ?_) (fun q27 => ?_)
  · have h := if_p h q27
    exact kb_X12_next_261 Z    C   σ25  h H locs hP hS ls (lv_sub hl [0] rfl)
  · have h := if_n h q27
    refine va_ldcS hx hb hown hE.2.1 dX12_next_248 ?_
    refine lv_iload_n hx hb dX12_next_250 rfl (lv_at hl 1 rfl) ?_
    obtain ⟨v28, σ29, hm30, h⟩ := bi_e h
    refine xr_calli (res := (v28, σ29)) (va_runV (As := [.int l1]) (rest := [.ref (za Z 0)]) ⟨hx, hb, hml, hown, hts⟩ (k_J0_indexOf_0f7a4 l Z   σ25 l1 hm30) (cwV 1 hts gX12_next_J0_indexOf_0f7a4 rfl rfl rfl (by decide +kernel) ⟨Nat.le_of_ble_eq_true rfl, Nat.le_of_ble_eq_true rfl⟩) ⟨wx_blind, vk_recv hE.2.2.1 (i := 0) (by decide) hS, fun U hU hW => ⟨rfl, wx_at hE hJ hP hK hS hU hW⟩⟩ rfl rfl hl.1 rfl (lv_room (Nat.le_of_ble_eq_true rfl)) dX12_next_251 ⟨Nat.le_of_ble_eq_true rfl, Nat.le_of_ble_eq_true rfl⟩) hS (fun H locs hP hS => ?_)
    have hP : ws_P (zD Z) vwCl 24 (za Z) (tM Z) σ29 H := hP
    refine lv_if_lt (tgt := 261) hx hb dX12_next_254 (by decide) (fun q31 => ?_) (fun q31 => ?_)
    · have h := if_p h q31
      exact kb_X12_next_261 Z    C   σ29  h H locs hP hS ls (lv_sub hl [0] rfl)
    · have h := if_n h q31
      refine lv_iconst (v := 2) hx hb dX12_next_257 (by decide) ?_
      refine lv_goto (tgt := 262) hx hb dX12_next_258 (by decide) ?_
      exact kb_X12_next_262 Z    C   σ29 2 h H locs hP hS ls (lv_sub hl [0] rfl)
def m_X12_next_84    (σ : SG) (l1 : Int32) (s0 : Int32) : Option (Unit × SG) :=
  bi (m_X12_isDigit  σ (σ.1 0 8)) (fun v15 σ16 => if ¬ v15 = 0 then (m_X12_next_113    σ16 s0) else (if s0 = 0 then (m_X12_next_238    σ16 l1) else (bi (m_X12_isDigit  σ16 ((σ16.1 0 8) + 1)) (fun v20 σ21 => if v20 = 0 then (m_X12_next_238    σ21 l1) else (m_X12_next_113    σ21 s0)))))
set_option maxHeartbeats 4000000 in
set_option maxRecDepth 100000 in
theorem kb_X12_next_84 {p : Program} {l : Launch} {e : Env} {s : State} {m : MethodId} {args : Array Value} {below : List Frame} {meth : Method} {c : Code} (Z : ZT)    (C : cy p s m args meth c cX12_next none 4 RX12 wsX12_next (EM Z) (zD Z) vwCl 24 (za Z) (tysM Z)) {res : Unit × SG}   : ∀ (σ : SG) (l1 : Int32) (s0 : Int32) , m_X12_next_84    σ l1 s0 = some res → ∀ (H : Heap) (locs : List Loc), ws_P (zD Z) vwCl 24 (za Z) (tM Z) σ H → va_S (ws_A 24 (za Z)) s.heap H locs → ∀ (ls : Array Slot), lv_has ls 4 [(0, .ref (za Z 0)), (1, .int l1)] → W p l e rm_X12_next s m args below meth c H locs 0 0 (MQ below (xQv (EM Z) (zD Z) vwCl 24 (za Z) (tM Z) (tysM Z) res) args s 0 0 (ws_A 24 (za Z))) (F0 m 84 ls [.int s0]) := by
  have C0 := C
  obtain ⟨hx, hb, hr, hlocks, hml, hown, hts, hE, hJ, hK⟩ := C0
  intro σ l1 s0  h H locs hP hS ls hl
  unfold m_X12_next_84 at h
  refine lv_istore_n (lv' := [(2, .int s0), (0, .ref (za Z 0)), (1, .int l1)]) hx hb dX12_next_84 rfl hl (by decide) rfl (fun ls hl => ?_)
  refine lv_aload_n hx hb dX12_next_85 rfl (lv_at hl 1 rfl) ?_
  refine lv_aload_n hx hb dX12_next_86 rfl (lv_at hl 1 rfl) ?_
  refine wr_get (C := RX12) (T := TX12) (N := 41) hx hb hts (in_X12_next_X12) hown hK hP (k := 0) (by decide) ((tM_0 Z) _ _ _) rfl 8 (by decide) (hts (.fieldLink RX12 104 "TuneSearchModel" "pos" "I") (by decide +kernel)) (fun _ h9 => h9) rfl dX12_next_87 ?_
  obtain ⟨v15, σ16, hm17, h⟩ := bi_e h
  refine xr_calli (res := (v15, σ16)) (va_runV (As := [.int (σ.1 0 8)]) (rest := []) ⟨hx, hb, hml, hown, hts⟩ (k_X12_isDigit l Z   σ (σ.1 0 8) hm17) (cwV 1 hts gX12_next_X12_isDigit rfl rfl rfl (by decide +kernel) ⟨Nat.le_of_ble_eq_true rfl, Nat.le_of_ble_eq_true rfl⟩) ⟨wx_blind, wr_recv hK hP (k := 0) (by decide) ((tM_0 Z) _ _ _) rfl, fun U hU hW => ⟨rfl, wx_at hE hJ hP hK hS hU hW⟩⟩ rfl rfl hl.1 rfl (lv_room (Nat.le_of_ble_eq_true rfl)) dX12_next_90 ⟨Nat.le_of_ble_eq_true rfl, Nat.le_of_ble_eq_true rfl⟩) hS (fun H locs hP hS => ?_)
  have hP : ws_P (zD Z) vwCl 24 (za Z) (tM Z) σ16 H := hP
  refine lv_if_ne (tgt := 113) hx hb dX12_next_93 (by decide) (fun q18 => ?_) (fun q18 => ?_)
  · have h := if_p h q18
    exact kb_X12_next_113 Z    C   σ16 s0 h H locs hP hS ls (lv_sub hl [1, 0] rfl)
  · have h := if_n h (fun z => z q18)
    refine lv_iload_n hx hb dX12_next_96 rfl (lv_at hl 0 rfl) ?_
    refine lv_if_eq (tgt := 238) hx hb dX12_next_97 (by decide) (fun q19 => ?_) (fun q19 => ?_)
    · have h := if_p h q19
      exact kb_X12_next_238 Z    C   σ16 l1 h H locs hP hS ls (lv_sub hl [1, 2] rfl)
    · have h := if_n h q19
      refine lv_aload_n hx hb dX12_next_100 rfl (lv_at hl 1 rfl) ?_
      refine lv_aload_n hx hb dX12_next_101 rfl (lv_at hl 1 rfl) ?_
      refine wr_get (C := RX12) (T := TX12) (N := 41) hx hb hts (in_X12_next_X12) hown hK hP (k := 0) (by decide) ((tM_0 Z) _ _ _) rfl 8 (by decide) (hts (.fieldLink RX12 104 "TuneSearchModel" "pos" "I") (by decide +kernel)) (fun _ h9 => h9) rfl dX12_next_102 ?_
      refine lv_iconst (v := 1) hx hb dX12_next_105 (by decide) ?_
      refine lv_iadd hx hb dX12_next_106 ?_
      obtain ⟨v20, σ21, hm22, h⟩ := bi_e h
      refine xr_calli (res := (v20, σ21)) (va_runV (As := [.int ((σ16.1 0 8) + 1)]) (rest := []) ⟨hx, hb, hml, hown, hts⟩ (k_X12_isDigit l Z   σ16 ((σ16.1 0 8) + 1) hm22) (cwV 1 hts gX12_next_X12_isDigit rfl rfl rfl (by decide +kernel) ⟨Nat.le_of_ble_eq_true rfl, Nat.le_of_ble_eq_true rfl⟩) ⟨wx_blind, wr_recv hK hP (k := 0) (by decide) ((tM_0 Z) _ _ _) rfl, fun U hU hW => ⟨rfl, wx_at hE hJ hP hK hS hU hW⟩⟩ rfl rfl hl.1 rfl (lv_room (Nat.le_of_ble_eq_true rfl)) dX12_next_107 ⟨Nat.le_of_ble_eq_true rfl, Nat.le_of_ble_eq_true rfl⟩) hS (fun H locs hP hS => ?_)
      have hP : ws_P (zD Z) vwCl 24 (za Z) (tM Z) σ21 H := hP
      refine lv_if_eq (tgt := 238) hx hb dX12_next_110 (by decide) (fun q23 => ?_) (fun q23 => ?_)
      · have h := if_p h q23
        exact kb_X12_next_238 Z    C   σ21 l1 h H locs hP hS ls (lv_sub hl [1, 2] rfl)
      · have h := if_n h q23
        exact kb_X12_next_113 Z    C   σ21 s0 h H locs hP hS ls (lv_sub hl [1, 0] rfl)
def m_X12_next_38    (σ : SG)  : Option (Unit × SG) :=
  lS (sI σ 0 10 (σ.1 0 8)) (fun σ6 => if ¬ (σ6.1 0 8) = (σ6.1 0 7) then (gB (inB (σ6.1 0 8) 160) (lS (σ6.1 5 (σ6.1 0 8).toNatClampNeg) (fun v10 => if ¬ v10 = 45 then (m_X12_next_84    σ6 v10 0) else (m_X12_next_84    σ6 v10 1)))) else (lS (sI σ6 0 9 0) (fun σ13 => some ((), σ13))))
set_option maxHeartbeats 4000000 in
set_option maxRecDepth 100000 in
theorem kb_X12_next_38 {p : Program} {l : Launch} {e : Env} {s : State} {m : MethodId} {args : Array Value} {below : List Frame} {meth : Method} {c : Code} (Z : ZT)    (C : cy p s m args meth c cX12_next none 4 RX12 wsX12_next (EM Z) (zD Z) vwCl 24 (za Z) (tysM Z)) {res : Unit × SG}   : ∀ (σ : SG)  , m_X12_next_38    σ  = some res → ∀ (H : Heap) (locs : List Loc), ws_P (zD Z) vwCl 24 (za Z) (tM Z) σ H → va_S (ws_A 24 (za Z)) s.heap H locs → ∀ (ls : Array Slot), lv_has ls 4 [(0, .ref (za Z 0))] → W p l e rm_X12_next s m args below meth c H locs 0 0 (MQ below (xQv (EM Z) (zD Z) vwCl 24 (za Z) (tM Z) (tysM Z) res) args s 0 0 (ws_A 24 (za Z))) (F0 m 38 ls []) := by
  have C0 := C
  obtain ⟨hx, hb, hr, hlocks, hml, hown, hts, hE, hJ, hK⟩ := C0
  intro σ   h H locs hP hS ls hl
  unfold m_X12_next_38 at h
  refine lv_aload_n hx hb dX12_next_38 rfl (lv_at hl 0 rfl) ?_
  refine lv_aload_n hx hb dX12_next_39 rfl (lv_at hl 0 rfl) ?_
  refine wr_get (C := RX12) (T := TX12) (N := 41) hx hb hts (in_X12_next_X12) hown hK hP (k := 0) (by decide) ((tM_0 Z) _ _ _) rfl 8 (by decide) (hts (.fieldLink RX12 104 "TuneSearchModel" "pos" "I") (by decide +kernel)) (fun _ h9 => h9) rfl dX12_next_40 ?_
  refine wr_put (C := RX12) (T := TX12) (N := 41) (σ' := sI σ 0 10 (σ.1 0 8)) (ty := .int) hx hb hts (in_X12_next_X12) tyX12 tyX12_ok nmX12 hown hK hP hJ hS (k := 0) (by decide) ((tM_0 Z) _ _ _) rfl 10 (by decide) (hts (.fieldLink RX12 107 "TuneSearchModel" "place" "I") (by decide +kernel)) (fun _ h9 => h9) rfl (by decide +kernel) rfl rfl (Nat.le_of_ble_eq_true rfl) (ws_pI (tM_0 Z) rfl) dX12_next_43 (fun H locs hP hS => ?_)
  obtain ⟨σ6, e7, h⟩ := lS_e h
  rw [← e7] at hP
  refine lv_aload_n hx hb dX12_next_46 rfl (lv_at hl 0 rfl) ?_
  refine wr_get (C := RX12) (T := TX12) (N := 41) hx hb hts (in_X12_next_X12) hown hK hP (k := 0) (by decide) ((tM_0 Z) _ _ _) rfl 8 (by decide) (hts (.fieldLink RX12 104 "TuneSearchModel" "pos" "I") (by decide +kernel)) (fun _ h9 => h9) rfl dX12_next_47 ?_
  refine lv_aload_n hx hb dX12_next_50 rfl (lv_at hl 0 rfl) ?_
  refine wr_get (C := RX12) (T := TX12) (N := 41) hx hb hts (in_X12_next_X12) hown hK hP (k := 0) (by decide) ((tM_0 Z) _ _ _) rfl 7 (by decide) (hts (.fieldLink RX12 101 "TuneSearchModel" "taped" "I") (by decide +kernel)) (fun _ h9 => h9) rfl dX12_next_51 ?_
  refine lv_icmp_ne (tgt := 63) hx hb dX12_next_54 (by decide) (fun q8 => ?_) (fun q8 => ?_)
  · have h := if_p h q8
    refine lv_aload_n hx hb dX12_next_63 rfl (lv_at hl 0 rfl) ?_
    refine wr_get (C := RX12) (T := TX12) (N := 41) hx hb hts (in_X12_next_X12) hown hK hP (k := 0) (by decide) ((tM_0 Z) _ _ _) rfl 6 (by decide) (hts (.fieldLink RX12 24 "TuneSearchModel" "tape" "[B") (by decide +kernel)) (fun _ h9 => h9) rfl dX12_next_64 ?_
    refine lv_aload_n hx hb dX12_next_67 rfl (lv_at hl 0 rfl) ?_
    refine wr_get (C := RX12) (T := TX12) (N := 41) hx hb hts (in_X12_next_X12) hown hK hP (k := 0) (by decide) ((tM_0 Z) _ _ _) rfl 8 (by decide) (hts (.fieldLink RX12 104 "TuneSearchModel" "pos" "I") (by decide +kernel)) (fun _ h9 => h9) rfl dX12_next_68 ?_
    obtain ⟨b9, h⟩ := gB_e h
    refine wr_bald hx hb hK hP (k := 5) (by decide) 2 ((tM_5 Z) _ _ _) rfl b9 dX12_next_71 ?_
    refine lv_topi (fun v10 e11 => ?_)
    have h := lS_u h e11
    refine lv_istore_n (lv' := [(1, .int v10), (0, .ref (za Z 0))]) hx hb dX12_next_72 rfl hl (by decide) rfl (fun ls hl => ?_)
    refine lv_iload_n hx hb dX12_next_73 rfl (lv_at hl 0 rfl) ?_
    refine lv_bipush (v := 45) hx hb dX12_next_74 (by decide) ?_
    refine lv_icmp_ne (tgt := 83) hx hb dX12_next_76 (by decide) (fun q12 => ?_) (fun q12 => ?_)
    · have h := if_p h q12
      refine lv_iconst (v := 0) hx hb dX12_next_83 (by decide) ?_
      exact kb_X12_next_84 Z    C   σ6 v10 0 h H locs hP hS ls (lv_sub hl [1, 0] rfl)
    · have h := if_n h (fun z => z q12)
      refine lv_iconst (v := 1) hx hb dX12_next_79 (by decide) ?_
      refine lv_goto (tgt := 84) hx hb dX12_next_80 (by decide) ?_
      exact kb_X12_next_84 Z    C   σ6 v10 1 h H locs hP hS ls (lv_sub hl [1, 0] rfl)
  · have h := if_n h (fun z => z q8)
    refine lv_aload_n hx hb dX12_next_57 rfl (lv_at hl 0 rfl) ?_
    refine lv_iconst (v := 0) hx hb dX12_next_58 (by decide) ?_
    refine wr_put (C := RX12) (T := TX12) (N := 41) (σ' := sI σ6 0 9 0) (ty := .int) hx hb hts (in_X12_next_X12) tyX12 tyX12_ok nmX12 hown hK hP hJ hS (k := 0) (by decide) ((tM_0 Z) _ _ _) rfl 9 (by decide) (hts (.fieldLink RX12 110 "TuneSearchModel" "token" "I") (by decide +kernel)) (fun _ h9 => h9) rfl (by decide +kernel) rfl rfl (Nat.le_of_ble_eq_true rfl) (ws_pI (tM_0 Z) rfl) dX12_next_59 (fun H locs hP hS => ?_)
    obtain ⟨σ13, e14, h⟩ := lS_e h
    rw [← e14] at hP
    exact xr_vret hx hb hr hlocks hE hJ hK hP hS h dX12_next_62
def m_X12_next_0_s    (c0 : SG → Option (Unit × SG)) (σ : SG)  : Option (Unit × SG) :=
  if (σ.1 0 7) ≤ (σ.1 0 8) then (m_X12_next_38    σ ) else (gB (inB (σ.1 0 8) 160) (if ¬ (σ.1 5 (σ.1 0 8).toNatClampNeg) = 32 then (m_X12_next_38    σ ) else (lS (sI σ 0 8 ((σ.1 0 8) + 1)) (fun σ4 => c0 σ4 ))))
def m_X12_next_0    : Nat → SG → Option (Unit × SG)
  | 0, _ => none
  | n + 1, σ => m_X12_next_0_s    (m_X12_next_0    n) σ 
set_option maxHeartbeats 4000000 in
set_option maxRecDepth 100000 in
theorem kb_X12_next_0 {p : Program} {l : Launch} {e : Env} {s : State} {m : MethodId} {args : Array Value} {below : List Frame} {meth : Method} {c : Code} (Z : ZT)    (C : cy p s m args meth c cX12_next none 4 RX12 wsX12_next (EM Z) (zD Z) vwCl 24 (za Z) (tysM Z)) {res : Unit × SG}   : ∀ (n : Nat) (σ : SG)  , m_X12_next_0    n σ  = some res → ∀ (H : Heap) (locs : List Loc), ws_P (zD Z) vwCl 24 (za Z) (tM Z) σ H → va_S (ws_A 24 (za Z)) s.heap H locs → ∀ (ls : Array Slot), lv_has ls 4 [(0, .ref (za Z 0))] → W p l e rm_X12_next s m args below meth c H locs 0 0 (MQ below (xQv (EM Z) (zD Z) vwCl 24 (za Z) (tM Z) (tysM Z) res) args s 0 0 (ws_A 24 (za Z))) (F0 m 0 ls []) := by
  have C0 := C
  obtain ⟨hx, hb, hr, hlocks, hml, hown, hts, hE, hJ, hK⟩ := C0
  intro n
  induction n with
  | zero =>
    intro σ   h
    cases h
  | succ n ih =>
    intro σ   h H locs hP hS ls hl
    have hc0 : ∀ (σ : SG)  , m_X12_next_0    n σ  = some res → ∀ (H : Heap) (locs : List Loc), ws_P (zD Z) vwCl 24 (za Z) (tM Z) σ H → va_S (ws_A 24 (za Z)) s.heap H locs → ∀ (ls : Array Slot), lv_has ls 4 [(0, .ref (za Z 0))] → W p l e rm_X12_next s m args below meth c H locs 0 0 (MQ below (xQv (EM Z) (zD Z) vwCl 24 (za Z) (tM Z) (tysM Z) res) args s 0 0 (ws_A 24 (za Z))) (F0 m 0 ls []) := ih
    have h : m_X12_next_0_s    (m_X12_next_0    n) σ  = some res := h
    unfold m_X12_next_0_s at h
    refine lv_aload_n hx hb dX12_next_0 rfl (lv_at hl 0 rfl) ?_
    refine wr_get (C := RX12) (T := TX12) (N := 41) hx hb hts (in_X12_next_X12) hown hK hP (k := 0) (by decide) ((tM_0 Z) _ _ _) rfl 8 (by decide) (hts (.fieldLink RX12 104 "TuneSearchModel" "pos" "I") (by decide +kernel)) (fun _ h9 => h9) rfl dX12_next_1 ?_
    refine lv_aload_n hx hb dX12_next_4 rfl (lv_at hl 0 rfl) ?_
    refine wr_get (C := RX12) (T := TX12) (N := 41) hx hb hts (in_X12_next_X12) hown hK hP (k := 0) (by decide) ((tM_0 Z) _ _ _) rfl 7 (by decide) (hts (.fieldLink RX12 101 "TuneSearchModel" "taped" "I") (by decide +kernel)) (fun _ h9 => h9) rfl dX12_next_5 ?_
    refine lv_icmp_ge (tgt := 38) hx hb dX12_next_8 (by decide) (fun q1 => ?_) (fun q1 => ?_)
    · have h := if_p h q1
      exact kb_X12_next_38 Z    C   σ  h H locs hP hS ls (lv_sub hl [0] rfl)
    · have h := if_n h q1
      refine lv_aload_n hx hb dX12_next_11 rfl (lv_at hl 0 rfl) ?_
      refine wr_get (C := RX12) (T := TX12) (N := 41) hx hb hts (in_X12_next_X12) hown hK hP (k := 0) (by decide) ((tM_0 Z) _ _ _) rfl 6 (by decide) (hts (.fieldLink RX12 24 "TuneSearchModel" "tape" "[B") (by decide +kernel)) (fun _ h9 => h9) rfl dX12_next_12 ?_
      refine lv_aload_n hx hb dX12_next_15 rfl (lv_at hl 0 rfl) ?_
      refine wr_get (C := RX12) (T := TX12) (N := 41) hx hb hts (in_X12_next_X12) hown hK hP (k := 0) (by decide) ((tM_0 Z) _ _ _) rfl 8 (by decide) (hts (.fieldLink RX12 104 "TuneSearchModel" "pos" "I") (by decide +kernel)) (fun _ h9 => h9) rfl dX12_next_16 ?_
      obtain ⟨b2, h⟩ := gB_e h
      refine wr_bald hx hb hK hP (k := 5) (by decide) 2 ((tM_5 Z) _ _ _) rfl b2 dX12_next_19 ?_
      refine lv_bipush (v := 32) hx hb dX12_next_20 (by decide) ?_
      refine lv_icmp_ne (tgt := 38) hx hb dX12_next_22 (by decide) (fun q3 => ?_) (fun q3 => ?_)
      · have h := if_p h q3
        exact kb_X12_next_38 Z    C   σ  h H locs hP hS ls (lv_sub hl [0] rfl)
      · have h := if_n h (fun z => z q3)
        refine lv_aload_n hx hb dX12_next_25 rfl (lv_at hl 0 rfl) ?_
        refine lv_dup hx hb dX12_next_26 rfl ?_
        refine wr_get (C := RX12) (T := TX12) (N := 41) hx hb hts (in_X12_next_X12) hown hK hP (k := 0) (by decide) ((tM_0 Z) _ _ _) rfl 8 (by decide) (hts (.fieldLink RX12 104 "TuneSearchModel" "pos" "I") (by decide +kernel)) (fun _ h9 => h9) rfl dX12_next_27 ?_
        refine lv_iconst (v := 1) hx hb dX12_next_30 (by decide) ?_
        refine lv_iadd hx hb dX12_next_31 ?_
        refine wr_put (C := RX12) (T := TX12) (N := 41) (σ' := sI σ 0 8 ((σ.1 0 8) + 1)) (ty := .int) hx hb hts (in_X12_next_X12) tyX12 tyX12_ok nmX12 hown hK hP hJ hS (k := 0) (by decide) ((tM_0 Z) _ _ _) rfl 8 (by decide) (hts (.fieldLink RX12 104 "TuneSearchModel" "pos" "I") (by decide +kernel)) (fun _ h9 => h9) rfl (by decide +kernel) rfl rfl (Nat.le_of_ble_eq_true rfl) (ws_pI (tM_0 Z) rfl) dX12_next_32 (fun H locs hP hS => ?_)
        obtain ⟨σ4, e5, h⟩ := lS_e h
        rw [← e5] at hP
        refine lv_goto (tgt := 0) hx hb dX12_next_35 (by decide) ?_
        exact hc0 σ4  h H locs hP hS ls (lv_sub hl [0] rfl)
def m_X12_next   (σ : SG)  : Option (Unit × SG) := m_X12_next_0   FV σ 
set_option maxHeartbeats 4000000 in
set_option maxRecDepth 100000 in
theorem k_X12_next (l : Launch) (Z : ZT)    (σ : SG)  {res : Unit × SG} (h : m_X12_next   σ  = some res) : Met l yX12_next wsX12_next rm_X12_next (va_Pc [.ref (za Z 0)] (wx (EM Z) (zD Z) vwCl 24 (za Z) (tM Z) (tysM Z) σ)) (xQv (EM Z) (zD Z) vwCl 24 (za Z) (tM Z) (tysM Z) res) 0 0 (ws_A 24 (za Z)) := by
  refine Met.ofW (cc := cX12_next) (maxL := 4) (ret := none) (by decide) rfl ?_
  intro p e s m args below meth c s₁ B hml hv
  obtain ⟨rfl, hE, hJ, hP, hK⟩ := hv
  have hl := lv_entry ([.ref (za Z 0)]) (n := 4) (Nat.le_of_ble_eq_true rfl)
  rw [lg_entry_eq]
  generalize (lg_sl ([.ref (za Z 0)]) ++ List.replicate (4 - (lg_sl ([.ref (za Z 0)])).length) Slot.unset).toArray = ls at hl ⊢
  exact kb_X12_next_0 Z    ⟨B.exec, B.bytes, B.returns, B.notSynchronized, hml, findClass_of_methodNamed B.named, atoms_spec (ws := wsX12_next) B.pre, hE, hJ, hK⟩ FV σ  h s.heap [] hP va_S.rf ls hl
/-! TuneSearchModel.take(I)V -/
abbrev rm_X12_take : Room := { frames := 5, cells := 0, slots := 0, locals := 114 }
def m_X12_take_0    (σ : SG) (p0 : Int32) : Option (Unit × SG) :=
  bi (m_X12_is  σ p0) (fun v1 σ2 => if ¬ v1 = 0 then (bi (m_X12_next  σ2 ) (fun v5 σ6 => some ((), σ6))) else (bi (m_X12_misplaced  σ2 ) (fun v8 σ9 => some ((), σ9))))
set_option maxHeartbeats 4000000 in
set_option maxRecDepth 100000 in
theorem kb_X12_take_0 {p : Program} {l : Launch} {e : Env} {s : State} {m : MethodId} {args : Array Value} {below : List Frame} {meth : Method} {c : Code} (Z : ZT)    (C : cy p s m args meth c cX12_take none 2 RX12 wsX12_take (EM Z) (zD Z) vwCl 24 (za Z) (tysM Z)) {res : Unit × SG}   : ∀ (σ : SG) (p0 : Int32) , m_X12_take_0    σ p0 = some res → ∀ (H : Heap) (locs : List Loc), ws_P (zD Z) vwCl 24 (za Z) (tM Z) σ H → va_S (ws_A 24 (za Z)) s.heap H locs → ∀ (ls : Array Slot), lv_has ls 2 [(0, .ref (za Z 0)), (1, .int p0)] → W p l e rm_X12_take s m args below meth c H locs 0 0 (MQ below (xQv (EM Z) (zD Z) vwCl 24 (za Z) (tM Z) (tysM Z) res) args s 0 0 (ws_A 24 (za Z))) (F0 m 0 ls []) := by
  have C0 := C
  obtain ⟨hx, hb, hr, hlocks, hml, hown, hts, hE, hJ, hK⟩ := C0
  intro σ p0  h H locs hP hS ls hl
  unfold m_X12_take_0 at h
  refine lv_aload_n hx hb dX12_take_0 rfl (lv_at hl 0 rfl) ?_
  refine lv_iload_n hx hb dX12_take_1 rfl (lv_at hl 1 rfl) ?_
  obtain ⟨v1, σ2, hm3, h⟩ := bi_e h
  refine xr_calli (res := (v1, σ2)) (va_runV (As := [.int p0]) (rest := []) ⟨hx, hb, hml, hown, hts⟩ (k_X12_is l Z   σ p0 hm3) (cwV 1 hts gX12_take_X12_is rfl rfl rfl (by decide +kernel) ⟨Nat.le_of_ble_eq_true rfl, Nat.le_of_ble_eq_true rfl⟩) ⟨wx_blind, wr_recv hK hP (k := 0) (by decide) ((tM_0 Z) _ _ _) rfl, fun U hU hW => ⟨rfl, wx_at hE hJ hP hK hS hU hW⟩⟩ rfl rfl hl.1 rfl (lv_room (Nat.le_of_ble_eq_true rfl)) dX12_take_2 ⟨Nat.le_of_ble_eq_true rfl, Nat.le_of_ble_eq_true rfl⟩) hS (fun H locs hP hS => ?_)
  have hP : ws_P (zD Z) vwCl 24 (za Z) (tM Z) σ2 H := hP
  refine lv_if_ne (tgt := 15) hx hb dX12_take_5 (by decide) (fun q4 => ?_) (fun q4 => ?_)
  · have h := if_p h q4
    refine lv_aload_n hx hb dX12_take_15 rfl (lv_at hl 0 rfl) ?_
    obtain ⟨v5, σ6, hm7, h⟩ := bi_e h
    refine xr_callv (res := (v5, σ6)) (va_runV (As := []) (rest := []) ⟨hx, hb, hml, hown, hts⟩ (k_X12_next l Z   σ2  hm7) (cwV 0 hts gX12_take_X12_next rfl rfl rfl (by decide +kernel) ⟨Nat.le_of_ble_eq_true rfl, Nat.le_of_ble_eq_true rfl⟩) ⟨wx_blind, wr_recv hK hP (k := 0) (by decide) ((tM_0 Z) _ _ _) rfl, fun U hU hW => ⟨rfl, wx_at hE hJ hP hK hS hU hW⟩⟩ rfl rfl hl.1 rfl (lv_room (Nat.le_of_ble_eq_true rfl)) dX12_take_16 ⟨Nat.le_of_ble_eq_true rfl, Nat.le_of_ble_eq_true rfl⟩) hS (fun H locs hP hS => ?_)
    have hP : ws_P (zD Z) vwCl 24 (za Z) (tM Z) σ6 H := hP
    exact xr_vret hx hb hr hlocks hE hJ hK hP hS h dX12_take_19
  · have h := if_n h (fun z => z q4)
    refine lv_aload_n hx hb dX12_take_8 rfl (lv_at hl 0 rfl) ?_
    obtain ⟨v8, σ9, hm10, h⟩ := bi_e h
    refine xr_callv (res := (v8, σ9)) (va_runV (As := []) (rest := []) ⟨hx, hb, hml, hown, hts⟩ (k_X12_misplaced l Z   σ2  hm10) (cwV 0 hts gX12_take_X12_misplaced rfl rfl rfl (by decide +kernel) ⟨Nat.le_of_ble_eq_true rfl, Nat.le_of_ble_eq_true rfl⟩) ⟨wx_blind, wr_recv hK hP (k := 0) (by decide) ((tM_0 Z) _ _ _) rfl, fun U hU hW => ⟨rfl, wx_at hE hJ hP hK hS hU hW⟩⟩ rfl rfl hl.1 rfl (lv_room (Nat.le_of_ble_eq_true rfl)) dX12_take_9 ⟨Nat.le_of_ble_eq_true rfl, Nat.le_of_ble_eq_true rfl⟩) hS (fun H locs hP hS => ?_)
    have hP : ws_P (zD Z) vwCl 24 (za Z) (tM Z) σ9 H := hP
    refine lv_goto (tgt := 19) hx hb dX12_take_12 (by decide) ?_
    exact xr_vret hx hb hr hlocks hE hJ hK hP hS h dX12_take_19
def m_X12_take   (σ : SG) (p0 : Int32) : Option (Unit × SG) := m_X12_take_0   σ p0
set_option maxHeartbeats 4000000 in
set_option maxRecDepth 100000 in
theorem k_X12_take (l : Launch) (Z : ZT)    (σ : SG) (p0 : Int32) {res : Unit × SG} (h : m_X12_take   σ p0 = some res) : Met l yX12_take wsX12_take rm_X12_take (va_Pc [.ref (za Z 0), .int p0] (wx (EM Z) (zD Z) vwCl 24 (za Z) (tM Z) (tysM Z) σ)) (xQv (EM Z) (zD Z) vwCl 24 (za Z) (tM Z) (tysM Z) res) 0 0 (ws_A 24 (za Z)) := by
  refine Met.ofW (cc := cX12_take) (maxL := 2) (ret := none) (by decide) rfl ?_
  intro p e s m args below meth c s₁ B hml hv
  obtain ⟨rfl, hE, hJ, hP, hK⟩ := hv
  have hl := lv_entry ([.ref (za Z 0), .int p0]) (n := 2) (Nat.le_of_ble_eq_true rfl)
  rw [lg_entry_eq]
  generalize (lg_sl ([.ref (za Z 0), .int p0]) ++ List.replicate (2 - (lg_sl ([.ref (za Z 0), .int p0])).length) Slot.unset).toArray = ls at hl ⊢
  exact kb_X12_take_0 Z    ⟨B.exec, B.bytes, B.returns, B.notSynchronized, hml, findClass_of_methodNamed B.named, atoms_spec (ws := wsX12_take) B.pre, hE, hJ, hK⟩ σ p0 h s.heap [] hP va_S.rf ls hl
/-! TuneSearchModel.range()I -/
abbrev rm_X12_range : Room := { frames := 6, cells := 0, slots := 0, locals := 135 }
theorem in_X12_range_X12 : ∀ w ∈ wsX120, w ∈ wsX12_range := by decide +kernel
def m_X12_range_103    (σ : SG) (l1 : Int32) (l2 : Int32) : Option (Int32 × SG) :=
  bi (m_X12_node  σ 1 l1 l2) (fun v52 σ53 => some (v52, σ53))
set_option maxHeartbeats 4000000 in
set_option maxRecDepth 100000 in
theorem kb_X12_range_103 {p : Program} {l : Launch} {e : Env} {s : State} {m : MethodId} {args : Array Value} {below : List Frame} {meth : Method} {c : Code} (Z : ZT)    (C : cy p s m args meth c cX12_range (some .int) 3 RX12 wsX12_range (EM Z) (zD Z) vwCl 24 (za Z) (tysM Z)) {res : Int32 × SG}   : ∀ (σ : SG) (l1 : Int32) (l2 : Int32) , m_X12_range_103    σ l1 l2 = some res → ∀ (H : Heap) (locs : List Loc), ws_P (zD Z) vwCl 24 (za Z) (tM Z) σ H → va_S (ws_A 24 (za Z)) s.heap H locs → ∀ (ls : Array Slot), lv_has ls 3 [(0, .ref (za Z 0)), (1, .int l1), (2, .int l2)] → W p l e rm_X12_range s m args below meth c H locs 0 0 (MQ below (xQi (EM Z) (zD Z) vwCl 24 (za Z) (tM Z) (tysM Z) res) args s 0 0 (ws_A 24 (za Z))) (F0 m 103 ls []) := by
  have C0 := C
  obtain ⟨hx, hb, hr, hlocks, hml, hown, hts, hE, hJ, hK⟩ := C0
  intro σ l1 l2  h H locs hP hS ls hl
  unfold m_X12_range_103 at h
  refine lv_aload_n hx hb dX12_range_103 rfl (lv_at hl 0 rfl) ?_
  refine lv_iconst (v := 1) hx hb dX12_range_104 (by decide) ?_
  refine lv_iload_n hx hb dX12_range_105 rfl (lv_at hl 1 rfl) ?_
  refine lv_iload_n hx hb dX12_range_106 rfl (lv_at hl 2 rfl) ?_
  obtain ⟨v52, σ53, hm54, h⟩ := bi_e h
  refine xr_calli (res := (v52, σ53)) (va_runV (As := [.int 1, .int l1, .int l2]) (rest := []) ⟨hx, hb, hml, hown, hts⟩ (k_X12_node l Z   σ 1 l1 l2 hm54) (cwV 3 hts gX12_range_X12_node rfl rfl rfl (by decide +kernel) ⟨Nat.le_of_ble_eq_true rfl, Nat.le_of_ble_eq_true rfl⟩) ⟨wx_blind, wr_recv hK hP (k := 0) (by decide) ((tM_0 Z) _ _ _) rfl, fun U hU hW => ⟨rfl, wx_at hE hJ hP hK hS hU hW⟩⟩ rfl rfl hl.1 rfl (lv_room (Nat.le_of_ble_eq_true rfl)) dX12_range_107 ⟨Nat.le_of_ble_eq_true rfl, Nat.le_of_ble_eq_true rfl⟩) hS (fun H locs hP hS => ?_)
  have hP : ws_P (zD Z) vwCl 24 (za Z) (tM Z) σ53 H := hP
  exact xr_iret hx hb hr hlocks hE hJ hK hP hS h dX12_range_110
def m_X12_range_86    (σ : SG) (l1 : Int32) (l2 : Int32) : Option (Int32 × SG) :=
  bi (m_X12_good  σ ) (fun v42 σ43 => if v42 = 0 then (m_X12_range_103    σ43 l1 l2) else (bi (m_X12_next  σ43 ) (fun v46 σ47 => bi (m_X12_take  σ47 93) (fun v49 σ50 => m_X12_range_103    σ50 l1 l2))))
set_option maxHeartbeats 4000000 in
set_option maxRecDepth 100000 in
theorem kb_X12_range_86 {p : Program} {l : Launch} {e : Env} {s : State} {m : MethodId} {args : Array Value} {below : List Frame} {meth : Method} {c : Code} (Z : ZT)    (C : cy p s m args meth c cX12_range (some .int) 3 RX12 wsX12_range (EM Z) (zD Z) vwCl 24 (za Z) (tysM Z)) {res : Int32 × SG}   : ∀ (σ : SG) (l1 : Int32) (l2 : Int32) , m_X12_range_86    σ l1 l2 = some res → ∀ (H : Heap) (locs : List Loc), ws_P (zD Z) vwCl 24 (za Z) (tM Z) σ H → va_S (ws_A 24 (za Z)) s.heap H locs → ∀ (ls : Array Slot), lv_has ls 3 [(0, .ref (za Z 0)), (1, .int l1), (2, .int l2)] → W p l e rm_X12_range s m args below meth c H locs 0 0 (MQ below (xQi (EM Z) (zD Z) vwCl 24 (za Z) (tM Z) (tysM Z) res) args s 0 0 (ws_A 24 (za Z))) (F0 m 86 ls []) := by
  have C0 := C
  obtain ⟨hx, hb, hr, hlocks, hml, hown, hts, hE, hJ, hK⟩ := C0
  intro σ l1 l2  h H locs hP hS ls hl
  unfold m_X12_range_86 at h
  refine lv_aload_n hx hb dX12_range_86 rfl (lv_at hl 0 rfl) ?_
  obtain ⟨v42, σ43, hm44, h⟩ := bi_e h
  refine xr_calli (res := (v42, σ43)) (va_runV (As := []) (rest := []) ⟨hx, hb, hml, hown, hts⟩ (k_X12_good l Z   σ  hm44) (cwV 0 hts gX12_range_X12_good rfl rfl rfl (by decide +kernel) ⟨Nat.le_of_ble_eq_true rfl, Nat.le_of_ble_eq_true rfl⟩) ⟨wx_blind, wr_recv hK hP (k := 0) (by decide) ((tM_0 Z) _ _ _) rfl, fun U hU hW => ⟨rfl, wx_at hE hJ hP hK hS hU hW⟩⟩ rfl rfl hl.1 rfl (lv_room (Nat.le_of_ble_eq_true rfl)) dX12_range_87 ⟨Nat.le_of_ble_eq_true rfl, Nat.le_of_ble_eq_true rfl⟩) hS (fun H locs hP hS => ?_)
  have hP : ws_P (zD Z) vwCl 24 (za Z) (tM Z) σ43 H := hP
  refine lv_if_eq (tgt := 103) hx hb dX12_range_90 (by decide) (fun q45 => ?_) (fun q45 => ?_)
  · have h := if_p h q45
    exact kb_X12_range_103 Z    C   σ43 l1 l2 h H locs hP hS ls (lv_sub hl [0, 1, 2] rfl)
  · have h := if_n h q45
    refine lv_aload_n hx hb dX12_range_93 rfl (lv_at hl 0 rfl) ?_
    obtain ⟨v46, σ47, hm48, h⟩ := bi_e h
    refine xr_callv (res := (v46, σ47)) (va_runV (As := []) (rest := []) ⟨hx, hb, hml, hown, hts⟩ (k_X12_next l Z   σ43  hm48) (cwV 0 hts gX12_range_X12_next rfl rfl rfl (by decide +kernel) ⟨Nat.le_of_ble_eq_true rfl, Nat.le_of_ble_eq_true rfl⟩) ⟨wx_blind, wr_recv hK hP (k := 0) (by decide) ((tM_0 Z) _ _ _) rfl, fun U hU hW => ⟨rfl, wx_at hE hJ hP hK hS hU hW⟩⟩ rfl rfl hl.1 rfl (lv_room (Nat.le_of_ble_eq_true rfl)) dX12_range_94 ⟨Nat.le_of_ble_eq_true rfl, Nat.le_of_ble_eq_true rfl⟩) hS (fun H locs hP hS => ?_)
    have hP : ws_P (zD Z) vwCl 24 (za Z) (tM Z) σ47 H := hP
    refine lv_aload_n hx hb dX12_range_97 rfl (lv_at hl 0 rfl) ?_
    refine lv_bipush (v := 93) hx hb dX12_range_98 (by decide) ?_
    obtain ⟨v49, σ50, hm51, h⟩ := bi_e h
    refine xr_callv (res := (v49, σ50)) (va_runV (As := [.int 93]) (rest := []) ⟨hx, hb, hml, hown, hts⟩ (k_X12_take l Z   σ47 93 hm51) (cwV 1 hts gX12_range_X12_take rfl rfl rfl (by decide +kernel) ⟨Nat.le_of_ble_eq_true rfl, Nat.le_of_ble_eq_true rfl⟩) ⟨wx_blind, wr_recv hK hP (k := 0) (by decide) ((tM_0 Z) _ _ _) rfl, fun U hU hW => ⟨rfl, wx_at hE hJ hP hK hS hU hW⟩⟩ rfl rfl hl.1 rfl (lv_room (Nat.le_of_ble_eq_true rfl)) dX12_range_100 ⟨Nat.le_of_ble_eq_true rfl, Nat.le_of_ble_eq_true rfl⟩) hS (fun H locs hP hS => ?_)
    have hP : ws_P (zD Z) vwCl 24 (za Z) (tM Z) σ50 H := hP
    exact kb_X12_range_103 Z    C   σ50 l1 l2 h H locs hP hS ls (lv_sub hl [0, 1, 2] rfl)
def m_X12_range_64    (σ : SG) (l1 : Int32) : Option (Int32 × SG) :=
  lS (σ.1 0 11) (fun v32 => bi (m_X12_good  σ ) (fun v34 σ35 => if v34 = 0 then (m_X12_range_86    σ35 l1 v32) else (if l1 ≤ v32 then (m_X12_range_86    σ35 l1 v32) else (bi (m_X12_fault  σ35 3) (fun v39 σ40 => m_X12_range_86    σ40 l1 v32)))))
set_option maxHeartbeats 4000000 in
set_option maxRecDepth 100000 in
theorem kb_X12_range_64 {p : Program} {l : Launch} {e : Env} {s : State} {m : MethodId} {args : Array Value} {below : List Frame} {meth : Method} {c : Code} (Z : ZT)    (C : cy p s m args meth c cX12_range (some .int) 3 RX12 wsX12_range (EM Z) (zD Z) vwCl 24 (za Z) (tysM Z)) {res : Int32 × SG}   : ∀ (σ : SG) (l1 : Int32) , m_X12_range_64    σ l1 = some res → ∀ (H : Heap) (locs : List Loc), ws_P (zD Z) vwCl 24 (za Z) (tM Z) σ H → va_S (ws_A 24 (za Z)) s.heap H locs → ∀ (ls : Array Slot), lv_has ls 3 [(0, .ref (za Z 0)), (1, .int l1)] → W p l e rm_X12_range s m args below meth c H locs 0 0 (MQ below (xQi (EM Z) (zD Z) vwCl 24 (za Z) (tM Z) (tysM Z) res) args s 0 0 (ws_A 24 (za Z))) (F0 m 64 ls []) := by
  have C0 := C
  obtain ⟨hx, hb, hr, hlocks, hml, hown, hts, hE, hJ, hK⟩ := C0
  intro σ l1  h H locs hP hS ls hl
  unfold m_X12_range_64 at h
  refine lv_aload_n hx hb dX12_range_64 rfl (lv_at hl 0 rfl) ?_
  refine wr_get (C := RX12) (T := TX12) (N := 41) hx hb hts (in_X12_range_X12) hown hK hP (k := 0) (by decide) ((tM_0 Z) _ _ _) rfl 11 (by decide) (hts (.fieldLink RX12 116 "TuneSearchModel" "what" "I") (by decide +kernel)) (fun _ h9 => h9) rfl dX12_range_65 ?_
  refine lv_topi (fun v32 e33 => ?_)
  have h := lS_u h e33
  refine lv_istore_n (lv' := [(2, .int v32), (0, .ref (za Z 0)), (1, .int l1)]) hx hb dX12_range_68 rfl hl (by decide) rfl (fun ls hl => ?_)
  refine lv_aload_n hx hb dX12_range_69 rfl (lv_at hl 1 rfl) ?_
  obtain ⟨v34, σ35, hm36, h⟩ := bi_e h
  refine xr_calli (res := (v34, σ35)) (va_runV (As := []) (rest := []) ⟨hx, hb, hml, hown, hts⟩ (k_X12_good l Z   σ  hm36) (cwV 0 hts gX12_range_X12_good rfl rfl rfl (by decide +kernel) ⟨Nat.le_of_ble_eq_true rfl, Nat.le_of_ble_eq_true rfl⟩) ⟨wx_blind, wr_recv hK hP (k := 0) (by decide) ((tM_0 Z) _ _ _) rfl, fun U hU hW => ⟨rfl, wx_at hE hJ hP hK hS hU hW⟩⟩ rfl rfl hl.1 rfl (lv_room (Nat.le_of_ble_eq_true rfl)) dX12_range_70 ⟨Nat.le_of_ble_eq_true rfl, Nat.le_of_ble_eq_true rfl⟩) hS (fun H locs hP hS => ?_)
  have hP : ws_P (zD Z) vwCl 24 (za Z) (tM Z) σ35 H := hP
  refine lv_if_eq (tgt := 86) hx hb dX12_range_73 (by decide) (fun q37 => ?_) (fun q37 => ?_)
  · have h := if_p h q37
    exact kb_X12_range_86 Z    C   σ35 l1 v32 h H locs hP hS ls (lv_sub hl [1, 2, 0] rfl)
  · have h := if_n h q37
    refine lv_iload_n hx hb dX12_range_76 rfl (lv_at hl 0 rfl) ?_
    refine lv_iload_n hx hb dX12_range_77 rfl (lv_at hl 2 rfl) ?_
    refine lv_icmp_ge (tgt := 86) hx hb dX12_range_78 (by decide) (fun q38 => ?_) (fun q38 => ?_)
    · have h := if_p h q38
      exact kb_X12_range_86 Z    C   σ35 l1 v32 h H locs hP hS ls (lv_sub hl [1, 2, 0] rfl)
    · have h := if_n h q38
      refine lv_aload_n hx hb dX12_range_81 rfl (lv_at hl 1 rfl) ?_
      refine lv_iconst (v := 3) hx hb dX12_range_82 (by decide) ?_
      obtain ⟨v39, σ40, hm41, h⟩ := bi_e h
      refine xr_callv (res := (v39, σ40)) (va_runV (As := [.int 3]) (rest := []) ⟨hx, hb, hml, hown, hts⟩ (k_X12_fault l Z   σ35 3 hm41) (cwV 1 hts gX12_range_X12_fault rfl rfl rfl (by decide +kernel) ⟨Nat.le_of_ble_eq_true rfl, Nat.le_of_ble_eq_true rfl⟩) ⟨wx_blind, wr_recv hK hP (k := 0) (by decide) ((tM_0 Z) _ _ _) rfl, fun U hU hW => ⟨rfl, wx_at hE hJ hP hK hS hU hW⟩⟩ rfl rfl hl.1 rfl (lv_room (Nat.le_of_ble_eq_true rfl)) dX12_range_83 ⟨Nat.le_of_ble_eq_true rfl, Nat.le_of_ble_eq_true rfl⟩) hS (fun H locs hP hS => ?_)
      have hP : ws_P (zD Z) vwCl 24 (za Z) (tM Z) σ40 H := hP
      exact kb_X12_range_86 Z    C   σ40 l1 v32 h H locs hP hS ls (lv_sub hl [1, 2, 0] rfl)
def m_X12_range_45    (σ : SG) (l1 : Int32) : Option (Int32 × SG) :=
  bi (m_X12_good  σ ) (fun v24 σ25 => if v24 = 0 then (m_X12_range_64    σ25 l1) else (if (σ25.1 0 9) = 1 then (m_X12_range_64    σ25 l1) else (bi (m_X12_misplaced  σ25 ) (fun v29 σ30 => m_X12_range_64    σ30 l1))))
set_option maxHeartbeats 4000000 in
set_option maxRecDepth 100000 in
theorem kb_X12_range_45 {p : Program} {l : Launch} {e : Env} {s : State} {m : MethodId} {args : Array Value} {below : List Frame} {meth : Method} {c : Code} (Z : ZT)    (C : cy p s m args meth c cX12_range (some .int) 3 RX12 wsX12_range (EM Z) (zD Z) vwCl 24 (za Z) (tysM Z)) {res : Int32 × SG}   : ∀ (σ : SG) (l1 : Int32) , m_X12_range_45    σ l1 = some res → ∀ (H : Heap) (locs : List Loc), ws_P (zD Z) vwCl 24 (za Z) (tM Z) σ H → va_S (ws_A 24 (za Z)) s.heap H locs → ∀ (ls : Array Slot), lv_has ls 3 [(0, .ref (za Z 0)), (1, .int l1)] → W p l e rm_X12_range s m args below meth c H locs 0 0 (MQ below (xQi (EM Z) (zD Z) vwCl 24 (za Z) (tM Z) (tysM Z) res) args s 0 0 (ws_A 24 (za Z))) (F0 m 45 ls []) := by
  have C0 := C
  obtain ⟨hx, hb, hr, hlocks, hml, hown, hts, hE, hJ, hK⟩ := C0
  intro σ l1  h H locs hP hS ls hl
  unfold m_X12_range_45 at h
  refine lv_aload_n hx hb dX12_range_45 rfl (lv_at hl 0 rfl) ?_
  obtain ⟨v24, σ25, hm26, h⟩ := bi_e h
  refine xr_calli (res := (v24, σ25)) (va_runV (As := []) (rest := []) ⟨hx, hb, hml, hown, hts⟩ (k_X12_good l Z   σ  hm26) (cwV 0 hts gX12_range_X12_good rfl rfl rfl (by decide +kernel) ⟨Nat.le_of_ble_eq_true rfl, Nat.le_of_ble_eq_true rfl⟩) ⟨wx_blind, wr_recv hK hP (k := 0) (by decide) ((tM_0 Z) _ _ _) rfl, fun U hU hW => ⟨rfl, wx_at hE hJ hP hK hS hU hW⟩⟩ rfl rfl hl.1 rfl (lv_room (Nat.le_of_ble_eq_true rfl)) dX12_range_46 ⟨Nat.le_of_ble_eq_true rfl, Nat.le_of_ble_eq_true rfl⟩) hS (fun H locs hP hS => ?_)
  have hP : ws_P (zD Z) vwCl 24 (za Z) (tM Z) σ25 H := hP
  refine lv_if_eq (tgt := 64) hx hb dX12_range_49 (by decide) (fun q27 => ?_) (fun q27 => ?_)
  · have h := if_p h q27
    exact kb_X12_range_64 Z    C   σ25 l1 h H locs hP hS ls (lv_sub hl [0, 1] rfl)
  · have h := if_n h q27
    refine lv_aload_n hx hb dX12_range_52 rfl (lv_at hl 0 rfl) ?_
    refine wr_get (C := RX12) (T := TX12) (N := 41) hx hb hts (in_X12_range_X12) hown hK hP (k := 0) (by decide) ((tM_0 Z) _ _ _) rfl 9 (by decide) (hts (.fieldLink RX12 110 "TuneSearchModel" "token" "I") (by decide +kernel)) (fun _ h9 => h9) rfl dX12_range_53 ?_
    refine lv_iconst (v := 1) hx hb dX12_range_56 (by decide) ?_
    refine lv_icmp_eq (tgt := 64) hx hb dX12_range_57 (by decide) (fun q28 => ?_) (fun q28 => ?_)
    · have h := if_p h q28
      exact kb_X12_range_64 Z    C   σ25 l1 h H locs hP hS ls (lv_sub hl [0, 1] rfl)
    · have h := if_n h q28
      refine lv_aload_n hx hb dX12_range_60 rfl (lv_at hl 0 rfl) ?_
      obtain ⟨v29, σ30, hm31, h⟩ := bi_e h
      refine xr_callv (res := (v29, σ30)) (va_runV (As := []) (rest := []) ⟨hx, hb, hml, hown, hts⟩ (k_X12_misplaced l Z   σ25  hm31) (cwV 0 hts gX12_range_X12_misplaced rfl rfl rfl (by decide +kernel) ⟨Nat.le_of_ble_eq_true rfl, Nat.le_of_ble_eq_true rfl⟩) ⟨wx_blind, wr_recv hK hP (k := 0) (by decide) ((tM_0 Z) _ _ _) rfl, fun U hU hW => ⟨rfl, wx_at hE hJ hP hK hS hU hW⟩⟩ rfl rfl hl.1 rfl (lv_room (Nat.le_of_ble_eq_true rfl)) dX12_range_61 ⟨Nat.le_of_ble_eq_true rfl, Nat.le_of_ble_eq_true rfl⟩) hS (fun H locs hP hS => ?_)
      have hP : ws_P (zD Z) vwCl 24 (za Z) (tM Z) σ30 H := hP
      exact kb_X12_range_64 Z    C   σ30 l1 h H locs hP hS ls (lv_sub hl [0, 1] rfl)
def m_X12_range_23    (σ : SG)  : Option (Int32 × SG) :=
  lS (σ.1 0 11) (fun v12 => bi (m_X12_good  σ ) (fun v14 σ15 => if v14 = 0 then (m_X12_range_45    σ15 v12) else (bi (m_X12_next  σ15 ) (fun v18 σ19 => bi (m_X12_take  σ19 44) (fun v21 σ22 => m_X12_range_45    σ22 v12)))))
set_option maxHeartbeats 4000000 in
set_option maxRecDepth 100000 in
theorem kb_X12_range_23 {p : Program} {l : Launch} {e : Env} {s : State} {m : MethodId} {args : Array Value} {below : List Frame} {meth : Method} {c : Code} (Z : ZT)    (C : cy p s m args meth c cX12_range (some .int) 3 RX12 wsX12_range (EM Z) (zD Z) vwCl 24 (za Z) (tysM Z)) {res : Int32 × SG}   : ∀ (σ : SG)  , m_X12_range_23    σ  = some res → ∀ (H : Heap) (locs : List Loc), ws_P (zD Z) vwCl 24 (za Z) (tM Z) σ H → va_S (ws_A 24 (za Z)) s.heap H locs → ∀ (ls : Array Slot), lv_has ls 3 [(0, .ref (za Z 0))] → W p l e rm_X12_range s m args below meth c H locs 0 0 (MQ below (xQi (EM Z) (zD Z) vwCl 24 (za Z) (tM Z) (tysM Z) res) args s 0 0 (ws_A 24 (za Z))) (F0 m 23 ls []) := by
  have C0 := C
  obtain ⟨hx, hb, hr, hlocks, hml, hown, hts, hE, hJ, hK⟩ := C0
  intro σ   h H locs hP hS ls hl
  unfold m_X12_range_23 at h
  refine lv_aload_n hx hb dX12_range_23 rfl (lv_at hl 0 rfl) ?_
  refine wr_get (C := RX12) (T := TX12) (N := 41) hx hb hts (in_X12_range_X12) hown hK hP (k := 0) (by decide) ((tM_0 Z) _ _ _) rfl 11 (by decide) (hts (.fieldLink RX12 116 "TuneSearchModel" "what" "I") (by decide +kernel)) (fun _ h9 => h9) rfl dX12_range_24 ?_
  refine lv_topi (fun v12 e13 => ?_)
  have h := lS_u h e13
  refine lv_istore_n (lv' := [(1, .int v12), (0, .ref (za Z 0))]) hx hb dX12_range_27 rfl hl (by decide) rfl (fun ls hl => ?_)
  refine lv_aload_n hx hb dX12_range_28 rfl (lv_at hl 1 rfl) ?_
  obtain ⟨v14, σ15, hm16, h⟩ := bi_e h
  refine xr_calli (res := (v14, σ15)) (va_runV (As := []) (rest := []) ⟨hx, hb, hml, hown, hts⟩ (k_X12_good l Z   σ  hm16) (cwV 0 hts gX12_range_X12_good rfl rfl rfl (by decide +kernel) ⟨Nat.le_of_ble_eq_true rfl, Nat.le_of_ble_eq_true rfl⟩) ⟨wx_blind, wr_recv hK hP (k := 0) (by decide) ((tM_0 Z) _ _ _) rfl, fun U hU hW => ⟨rfl, wx_at hE hJ hP hK hS hU hW⟩⟩ rfl rfl hl.1 rfl (lv_room (Nat.le_of_ble_eq_true rfl)) dX12_range_29 ⟨Nat.le_of_ble_eq_true rfl, Nat.le_of_ble_eq_true rfl⟩) hS (fun H locs hP hS => ?_)
  have hP : ws_P (zD Z) vwCl 24 (za Z) (tM Z) σ15 H := hP
  refine lv_if_eq (tgt := 45) hx hb dX12_range_32 (by decide) (fun q17 => ?_) (fun q17 => ?_)
  · have h := if_p h q17
    exact kb_X12_range_45 Z    C   σ15 v12 h H locs hP hS ls (lv_sub hl [1, 0] rfl)
  · have h := if_n h q17
    refine lv_aload_n hx hb dX12_range_35 rfl (lv_at hl 1 rfl) ?_
    obtain ⟨v18, σ19, hm20, h⟩ := bi_e h
    refine xr_callv (res := (v18, σ19)) (va_runV (As := []) (rest := []) ⟨hx, hb, hml, hown, hts⟩ (k_X12_next l Z   σ15  hm20) (cwV 0 hts gX12_range_X12_next rfl rfl rfl (by decide +kernel) ⟨Nat.le_of_ble_eq_true rfl, Nat.le_of_ble_eq_true rfl⟩) ⟨wx_blind, wr_recv hK hP (k := 0) (by decide) ((tM_0 Z) _ _ _) rfl, fun U hU hW => ⟨rfl, wx_at hE hJ hP hK hS hU hW⟩⟩ rfl rfl hl.1 rfl (lv_room (Nat.le_of_ble_eq_true rfl)) dX12_range_36 ⟨Nat.le_of_ble_eq_true rfl, Nat.le_of_ble_eq_true rfl⟩) hS (fun H locs hP hS => ?_)
    have hP : ws_P (zD Z) vwCl 24 (za Z) (tM Z) σ19 H := hP
    refine lv_aload_n hx hb dX12_range_39 rfl (lv_at hl 1 rfl) ?_
    refine lv_bipush (v := 44) hx hb dX12_range_40 (by decide) ?_
    obtain ⟨v21, σ22, hm23, h⟩ := bi_e h
    refine xr_callv (res := (v21, σ22)) (va_runV (As := [.int 44]) (rest := []) ⟨hx, hb, hml, hown, hts⟩ (k_X12_take l Z   σ19 44 hm23) (cwV 1 hts gX12_range_X12_take rfl rfl rfl (by decide +kernel) ⟨Nat.le_of_ble_eq_true rfl, Nat.le_of_ble_eq_true rfl⟩) ⟨wx_blind, wr_recv hK hP (k := 0) (by decide) ((tM_0 Z) _ _ _) rfl, fun U hU hW => ⟨rfl, wx_at hE hJ hP hK hS hU hW⟩⟩ rfl rfl hl.1 rfl (lv_room (Nat.le_of_ble_eq_true rfl)) dX12_range_42 ⟨Nat.le_of_ble_eq_true rfl, Nat.le_of_ble_eq_true rfl⟩) hS (fun H locs hP hS => ?_)
    have hP : ws_P (zD Z) vwCl 24 (za Z) (tM Z) σ22 H := hP
    exact kb_X12_range_45 Z    C   σ22 v12 h H locs hP hS ls (lv_sub hl [1, 0] rfl)
def m_X12_range_0    (σ : SG)  : Option (Int32 × SG) :=
  bi (m_X12_next  σ ) (fun v1 σ2 => bi (m_X12_good  σ2 ) (fun v4 σ5 => if v4 = 0 then (m_X12_range_23    σ5 ) else (if (σ5.1 0 9) = 1 then (m_X12_range_23    σ5 ) else (bi (m_X12_misplaced  σ5 ) (fun v9 σ10 => m_X12_range_23    σ10 )))))
set_option maxHeartbeats 4000000 in
set_option maxRecDepth 100000 in
theorem kb_X12_range_0 {p : Program} {l : Launch} {e : Env} {s : State} {m : MethodId} {args : Array Value} {below : List Frame} {meth : Method} {c : Code} (Z : ZT)    (C : cy p s m args meth c cX12_range (some .int) 3 RX12 wsX12_range (EM Z) (zD Z) vwCl 24 (za Z) (tysM Z)) {res : Int32 × SG}   : ∀ (σ : SG)  , m_X12_range_0    σ  = some res → ∀ (H : Heap) (locs : List Loc), ws_P (zD Z) vwCl 24 (za Z) (tM Z) σ H → va_S (ws_A 24 (za Z)) s.heap H locs → ∀ (ls : Array Slot), lv_has ls 3 [(0, .ref (za Z 0))] → W p l e rm_X12_range s m args below meth c H locs 0 0 (MQ below (xQi (EM Z) (zD Z) vwCl 24 (za Z) (tM Z) (tysM Z) res) args s 0 0 (ws_A 24 (za Z))) (F0 m 0 ls []) := by
  have C0 := C
  obtain ⟨hx, hb, hr, hlocks, hml, hown, hts, hE, hJ, hK⟩ := C0
  intro σ   h H locs hP hS ls hl
  unfold m_X12_range_0 at h
  refine lv_aload_n hx hb dX12_range_0 rfl (lv_at hl 0 rfl) ?_
  obtain ⟨v1, σ2, hm3, h⟩ := bi_e h
  refine xr_callv (res := (v1, σ2)) (va_runV (As := []) (rest := []) ⟨hx, hb, hml, hown, hts⟩ (k_X12_next l Z   σ  hm3) (cwV 0 hts gX12_range_X12_next rfl rfl rfl (by decide +kernel) ⟨Nat.le_of_ble_eq_true rfl, Nat.le_of_ble_eq_true rfl⟩) ⟨wx_blind, wr_recv hK hP (k := 0) (by decide) ((tM_0 Z) _ _ _) rfl, fun U hU hW => ⟨rfl, wx_at hE hJ hP hK hS hU hW⟩⟩ rfl rfl hl.1 rfl (lv_room (Nat.le_of_ble_eq_true rfl)) dX12_range_1 ⟨Nat.le_of_ble_eq_true rfl, Nat.le_of_ble_eq_true rfl⟩) hS (fun H locs hP hS => ?_)
  have hP : ws_P (zD Z) vwCl 24 (za Z) (tM Z) σ2 H := hP
  refine lv_aload_n hx hb dX12_range_4 rfl (lv_at hl 0 rfl) ?_
  obtain ⟨v4, σ5, hm6, h⟩ := bi_e h
  refine xr_calli (res := (v4, σ5)) (va_runV (As := []) (rest := []) ⟨hx, hb, hml, hown, hts⟩ (k_X12_good l Z   σ2  hm6) (cwV 0 hts gX12_range_X12_good rfl rfl rfl (by decide +kernel) ⟨Nat.le_of_ble_eq_true rfl, Nat.le_of_ble_eq_true rfl⟩) ⟨wx_blind, wr_recv hK hP (k := 0) (by decide) ((tM_0 Z) _ _ _) rfl, fun U hU hW => ⟨rfl, wx_at hE hJ hP hK hS hU hW⟩⟩ rfl rfl hl.1 rfl (lv_room (Nat.le_of_ble_eq_true rfl)) dX12_range_5 ⟨Nat.le_of_ble_eq_true rfl, Nat.le_of_ble_eq_true rfl⟩) hS (fun H locs hP hS => ?_)
  have hP : ws_P (zD Z) vwCl 24 (za Z) (tM Z) σ5 H := hP
  refine lv_if_eq (tgt := 23) hx hb dX12_range_8 (by decide) (fun q7 => ?_) (fun q7 => ?_)
  · have h := if_p h q7
    exact kb_X12_range_23 Z    C   σ5  h H locs hP hS ls (lv_sub hl [0] rfl)
  · have h := if_n h q7
    refine lv_aload_n hx hb dX12_range_11 rfl (lv_at hl 0 rfl) ?_
    refine wr_get (C := RX12) (T := TX12) (N := 41) hx hb hts (in_X12_range_X12) hown hK hP (k := 0) (by decide) ((tM_0 Z) _ _ _) rfl 9 (by decide) (hts (.fieldLink RX12 110 "TuneSearchModel" "token" "I") (by decide +kernel)) (fun _ h9 => h9) rfl dX12_range_12 ?_
    refine lv_iconst (v := 1) hx hb dX12_range_15 (by decide) ?_
    refine lv_icmp_eq (tgt := 23) hx hb dX12_range_16 (by decide) (fun q8 => ?_) (fun q8 => ?_)
    · have h := if_p h q8
      exact kb_X12_range_23 Z    C   σ5  h H locs hP hS ls (lv_sub hl [0] rfl)
    · have h := if_n h q8
      refine lv_aload_n hx hb dX12_range_19 rfl (lv_at hl 0 rfl) ?_
      obtain ⟨v9, σ10, hm11, h⟩ := bi_e h
      refine xr_callv (res := (v9, σ10)) (va_runV (As := []) (rest := []) ⟨hx, hb, hml, hown, hts⟩ (k_X12_misplaced l Z   σ5  hm11) (cwV 0 hts gX12_range_X12_misplaced rfl rfl rfl (by decide +kernel) ⟨Nat.le_of_ble_eq_true rfl, Nat.le_of_ble_eq_true rfl⟩) ⟨wx_blind, wr_recv hK hP (k := 0) (by decide) ((tM_0 Z) _ _ _) rfl, fun U hU hW => ⟨rfl, wx_at hE hJ hP hK hS hU hW⟩⟩ rfl rfl hl.1 rfl (lv_room (Nat.le_of_ble_eq_true rfl)) dX12_range_20 ⟨Nat.le_of_ble_eq_true rfl, Nat.le_of_ble_eq_true rfl⟩) hS (fun H locs hP hS => ?_)
      have hP : ws_P (zD Z) vwCl 24 (za Z) (tM Z) σ10 H := hP
      exact kb_X12_range_23 Z    C   σ10  h H locs hP hS ls (lv_sub hl [0] rfl)
def m_X12_range   (σ : SG)  : Option (Int32 × SG) := m_X12_range_0   σ 
set_option maxHeartbeats 4000000 in
set_option maxRecDepth 100000 in
theorem k_X12_range (l : Launch) (Z : ZT)    (σ : SG)  {res : Int32 × SG} (h : m_X12_range   σ  = some res) : Met l yX12_range wsX12_range rm_X12_range (va_Pc [.ref (za Z 0)] (wx (EM Z) (zD Z) vwCl 24 (za Z) (tM Z) (tysM Z) σ)) (xQi (EM Z) (zD Z) vwCl 24 (za Z) (tM Z) (tysM Z) res) 0 0 (ws_A 24 (za Z)) := by
  refine Met.ofW (cc := cX12_range) (maxL := 3) (ret := (some .int)) (by decide) rfl ?_
  intro p e s m args below meth c s₁ B hml hv
  obtain ⟨rfl, hE, hJ, hP, hK⟩ := hv
  have hl := lv_entry ([.ref (za Z 0)]) (n := 3) (Nat.le_of_ble_eq_true rfl)
  rw [lg_entry_eq]
  generalize (lg_sl ([.ref (za Z 0)]) ++ List.replicate (3 - (lg_sl ([.ref (za Z 0)])).length) Slot.unset).toArray = ls at hl ⊢
  exact kb_X12_range_0 Z    ⟨B.exec, B.bytes, B.returns, B.notSynchronized, hml, findClass_of_methodNamed B.named, atoms_spec (ws := wsX12_range) B.pre, hE, hJ, hK⟩ σ  h s.heap [] hP va_S.rf ls hl
/-! TuneSearchModel.atom()I -/
theorem in_X12_atom_X12 : ∀ w ∈ wsX120, w ∈ wsX12_atom := by decide +kernel
def m_X12_atom_142 (f_X12_alternatives : SG → Option (Int32 × SG))   (σ : SG) (s0 : Int32) : Option (Int32 × SG) :=
  bi (m_X12_node  σ s0 0 0) (fun v48 σ49 => bi (m_X12_next  σ49 ) (fun v51 σ52 => some (v48, σ52)))
set_option maxHeartbeats 4000000 in
set_option maxRecDepth 100000 in
theorem kb_X12_atom_142 {p : Program} {l : Launch} {e : Env} {s : State} {m : MethodId} {args : Array Value} {below : List Frame} {meth : Method} {c : Code} (Z : ZT) (d : Nat) (f_X12_alternatives : SG → Option (Int32 × SG)) (hf_X12_alternatives : ∀ (σ : SG)  (res : Int32 × SG), f_X12_alternatives σ  = some res → Met l yX12_alternatives wsX12_alternatives (rmq 19 d) (va_Pc [.ref (za Z 0)] (wx (EM Z) (zD Z) vwCl 24 (za Z) (tM Z) (tysM Z) σ)) (xQi (EM Z) (zD Z) vwCl 24 (za Z) (tM Z) (tysM Z) res) 0 0 (ws_A 24 (za Z)))   (C : cy p s m args meth c cX12_atom (some .int) 2 RX12 wsX12_atom (EM Z) (zD Z) vwCl 24 (za Z) (tysM Z)) {res : Int32 × SG}   : ∀ (σ : SG) (s0 : Int32) , m_X12_atom_142 f_X12_alternatives   σ s0 = some res → ∀ (H : Heap) (locs : List Loc), ws_P (zD Z) vwCl 24 (za Z) (tM Z) σ H → va_S (ws_A 24 (za Z)) s.heap H locs → ∀ (ls : Array Slot), lv_has ls 2 [(0, .ref (za Z 0))] → W p l e (rmq 16 (d + 1)) s m args below meth c H locs 0 0 (MQ below (xQi (EM Z) (zD Z) vwCl 24 (za Z) (tM Z) (tysM Z) res) args s 0 0 (ws_A 24 (za Z))) (F0 m 142 ls [.int s0, .ref (za Z 0)]) := by
  have C0 := C
  obtain ⟨hx, hb, hr, hlocks, hml, hown, hts, hE, hJ, hK⟩ := C0
  intro σ s0  h H locs hP hS ls hl
  unfold m_X12_atom_142 at h
  refine lv_iconst (v := 0) hx hb dX12_atom_142 (by decide) ?_
  refine lv_iconst (v := 0) hx hb dX12_atom_143 (by decide) ?_
  obtain ⟨v48, σ49, hm50, h⟩ := bi_e h
  refine xr_calli (res := (v48, σ49)) (va_runV (As := [.int s0, .int 0, .int 0]) (rest := []) ⟨hx, hb, hml, hown, hts⟩ (k_X12_node l Z   σ s0 0 0 hm50) (cwV 3 hts gX12_atom_X12_node rfl rfl rfl (by decide +kernel) ⟨by first | (dsimp only [rmq, rmb]; omega) | omega, by first | (dsimp only [rmq, rmb]; omega) | omega⟩) ⟨wx_blind, wr_recv hK hP (k := 0) (by decide) ((tM_0 Z) _ _ _) rfl, fun U hU hW => ⟨rfl, wx_at hE hJ hP hK hS hU hW⟩⟩ rfl rfl hl.1 rfl (lv_room (Nat.le_of_ble_eq_true rfl)) dX12_atom_144 ⟨Nat.le_of_ble_eq_true rfl, Nat.le_of_ble_eq_true rfl⟩) hS (fun H locs hP hS => ?_)
  have hP : ws_P (zD Z) vwCl 24 (za Z) (tM Z) σ49 H := hP
  refine lv_istore_n (lv' := [(1, .int v48), (0, .ref (za Z 0))]) hx hb dX12_atom_147 rfl hl (by decide) rfl (fun ls hl => ?_)
  refine lv_aload_n hx hb dX12_atom_148 rfl (lv_at hl 1 rfl) ?_
  obtain ⟨v51, σ52, hm53, h⟩ := bi_e h
  refine xr_callv (res := (v51, σ52)) (va_runV (As := []) (rest := []) ⟨hx, hb, hml, hown, hts⟩ (k_X12_next l Z   σ49  hm53) (cwV 0 hts gX12_atom_X12_next rfl rfl rfl (by decide +kernel) ⟨by first | (dsimp only [rmq, rmb]; omega) | omega, by first | (dsimp only [rmq, rmb]; omega) | omega⟩) ⟨wx_blind, wr_recv hK hP (k := 0) (by decide) ((tM_0 Z) _ _ _) rfl, fun U hU hW => ⟨rfl, wx_at hE hJ hP hK hS hU hW⟩⟩ rfl rfl hl.1 rfl (lv_room (Nat.le_of_ble_eq_true rfl)) dX12_atom_149 ⟨Nat.le_of_ble_eq_true rfl, Nat.le_of_ble_eq_true rfl⟩) hS (fun H locs hP hS => ?_)
  have hP : ws_P (zD Z) vwCl 24 (za Z) (tM Z) σ52 H := hP
  refine lv_iload_n hx hb dX12_atom_152 rfl (lv_at hl 0 rfl) ?_
  exact xr_iret hx hb hr hlocks hE hJ hK hP hS h dX12_atom_153
def m_X12_atom_0 (f_X12_alternatives : SG → Option (Int32 × SG))   (σ : SG)  : Option (Int32 × SG) :=
  bi (m_X12_is  σ 40) (fun v1 σ2 => if v1 = 0 then (if ¬ (σ2.1 0 19) = 50 then (lS (sI σ2 0 19 ((σ2.1 0 19) + 1)) (fun σ6 => if ¬ (σ6.1 0 9) = 1 then (bi (m_X12_is  σ6 91) (fun v9 σ10 => if v9 = 0 then (bi (m_X12_is  σ10 46) (fun v13 σ14 => if v13 = 0 then (m_X12_atom_142 f_X12_alternatives   σ14 3) else (m_X12_atom_142 f_X12_alternatives   σ14 2))) else (bi (m_X12_range  σ10 ) (fun v17 σ18 => some (v17, σ18))))) else (lS (σ6.1 0 11) (fun v20 => bi (m_X12_next  σ6 ) (fun v22 σ23 => bi (m_X12_node  σ23 1 v20 v20) (fun v25 σ26 => some (v25, σ26))))))) else (bi (m_X12_fault  σ2 4) (fun v28 σ29 => some (0, σ29)))) else (if ¬ (σ2.1 0 20) = 8 then (lS (sI σ2 0 20 ((σ2.1 0 20) + 1)) (fun σ32 => bi (m_X12_next  σ32 ) (fun v34 σ35 => bi (f_X12_alternatives σ35 ) (fun v37 σ38 => bi (m_X12_take  σ38 41) (fun v40 σ41 => lS (sI σ41 0 20 ((σ41.1 0 20) - 1)) (fun σ43 => some (v37, σ43))))))) else (bi (m_X12_fault  σ2 4) (fun v45 σ46 => some (0, σ46)))))
set_option maxHeartbeats 4000000 in
set_option maxRecDepth 100000 in
theorem kb_X12_atom_0 {p : Program} {l : Launch} {e : Env} {s : State} {m : MethodId} {args : Array Value} {below : List Frame} {meth : Method} {c : Code} (Z : ZT) (d : Nat) (f_X12_alternatives : SG → Option (Int32 × SG)) (hf_X12_alternatives : ∀ (σ : SG)  (res : Int32 × SG), f_X12_alternatives σ  = some res → Met l yX12_alternatives wsX12_alternatives (rmq 19 d) (va_Pc [.ref (za Z 0)] (wx (EM Z) (zD Z) vwCl 24 (za Z) (tM Z) (tysM Z) σ)) (xQi (EM Z) (zD Z) vwCl 24 (za Z) (tM Z) (tysM Z) res) 0 0 (ws_A 24 (za Z)))   (C : cy p s m args meth c cX12_atom (some .int) 2 RX12 wsX12_atom (EM Z) (zD Z) vwCl 24 (za Z) (tysM Z)) {res : Int32 × SG}   : ∀ (σ : SG)  , m_X12_atom_0 f_X12_alternatives   σ  = some res → ∀ (H : Heap) (locs : List Loc), ws_P (zD Z) vwCl 24 (za Z) (tM Z) σ H → va_S (ws_A 24 (za Z)) s.heap H locs → ∀ (ls : Array Slot), lv_has ls 2 [(0, .ref (za Z 0))] → W p l e (rmq 16 (d + 1)) s m args below meth c H locs 0 0 (MQ below (xQi (EM Z) (zD Z) vwCl 24 (za Z) (tM Z) (tysM Z) res) args s 0 0 (ws_A 24 (za Z))) (F0 m 0 ls []) := by
  have C0 := C
  obtain ⟨hx, hb, hr, hlocks, hml, hown, hts, hE, hJ, hK⟩ := C0
  intro σ   h H locs hP hS ls hl
  unfold m_X12_atom_0 at h
  refine lv_aload_n hx hb dX12_atom_0 rfl (lv_at hl 0 rfl) ?_
  refine lv_bipush (v := 40) hx hb dX12_atom_1 (by decide) ?_
  obtain ⟨v1, σ2, hm3, h⟩ := bi_e h
  refine xr_calli (res := (v1, σ2)) (va_runV (As := [.int 40]) (rest := []) ⟨hx, hb, hml, hown, hts⟩ (k_X12_is l Z   σ 40 hm3) (cwV 1 hts gX12_atom_X12_is rfl rfl rfl (by decide +kernel) ⟨by first | (dsimp only [rmq, rmb]; omega) | omega, by first | (dsimp only [rmq, rmb]; omega) | omega⟩) ⟨wx_blind, wr_recv hK hP (k := 0) (by decide) ((tM_0 Z) _ _ _) rfl, fun U hU hW => ⟨rfl, wx_at hE hJ hP hK hS hU hW⟩⟩ rfl rfl hl.1 rfl (lv_room (Nat.le_of_ble_eq_true rfl)) dX12_atom_3 ⟨Nat.le_of_ble_eq_true rfl, Nat.le_of_ble_eq_true rfl⟩) hS (fun H locs hP hS => ?_)
  have hP : ws_P (zD Z) vwCl 24 (za Z) (tM Z) σ2 H := hP
  refine lv_if_eq (tgt := 62) hx hb dX12_atom_6 (by decide) (fun q4 => ?_) (fun q4 => ?_)
  · have h := if_p h q4
    refine lv_aload_n hx hb dX12_atom_62 rfl (lv_at hl 0 rfl) ?_
    refine wr_get (C := RX12) (T := TX12) (N := 41) hx hb hts (in_X12_atom_X12) hown hK hP (k := 0) (by decide) ((tM_0 Z) _ _ _) rfl 19 (by decide) (hts (.fieldLink RX12 176 "TuneSearchModel" "atoms" "I") (by decide +kernel)) (fun _ h9 => h9) rfl dX12_atom_63 ?_
    refine lv_bipush (v := 50) hx hb dX12_atom_66 (by decide) ?_
    refine lv_icmp_ne (tgt := 78) hx hb dX12_atom_68 (by decide) (fun q5 => ?_) (fun q5 => ?_)
    · have h := if_p h q5
      refine lv_aload_n hx hb dX12_atom_78 rfl (lv_at hl 0 rfl) ?_
      refine lv_dup hx hb dX12_atom_79 rfl ?_
      refine wr_get (C := RX12) (T := TX12) (N := 41) hx hb hts (in_X12_atom_X12) hown hK hP (k := 0) (by decide) ((tM_0 Z) _ _ _) rfl 19 (by decide) (hts (.fieldLink RX12 176 "TuneSearchModel" "atoms" "I") (by decide +kernel)) (fun _ h9 => h9) rfl dX12_atom_80 ?_
      refine lv_iconst (v := 1) hx hb dX12_atom_83 (by decide) ?_
      refine lv_iadd hx hb dX12_atom_84 ?_
      refine wr_put (C := RX12) (T := TX12) (N := 41) (σ' := sI σ2 0 19 ((σ2.1 0 19) + 1)) (ty := .int) hx hb hts (in_X12_atom_X12) tyX12 tyX12_ok nmX12 hown hK hP hJ hS (k := 0) (by decide) ((tM_0 Z) _ _ _) rfl 19 (by decide) (hts (.fieldLink RX12 176 "TuneSearchModel" "atoms" "I") (by decide +kernel)) (fun _ h9 => h9) rfl (by decide +kernel) rfl rfl (Nat.le_of_ble_eq_true rfl) (ws_pI (tM_0 Z) rfl) dX12_atom_85 (fun H locs hP hS => ?_)
      obtain ⟨σ6, e7, h⟩ := lS_e h
      rw [← e7] at hP
      refine lv_aload_n hx hb dX12_atom_88 rfl (lv_at hl 0 rfl) ?_
      refine wr_get (C := RX12) (T := TX12) (N := 41) hx hb hts (in_X12_atom_X12) hown hK hP (k := 0) (by decide) ((tM_0 Z) _ _ _) rfl 9 (by decide) (hts (.fieldLink RX12 110 "TuneSearchModel" "token" "I") (by decide +kernel)) (fun _ h9 => h9) rfl dX12_atom_89 ?_
      refine lv_iconst (v := 1) hx hb dX12_atom_92 (by decide) ?_
      refine lv_icmp_ne (tgt := 113) hx hb dX12_atom_93 (by decide) (fun q8 => ?_) (fun q8 => ?_)
      · have h := if_p h q8
        refine lv_aload_n hx hb dX12_atom_113 rfl (lv_at hl 0 rfl) ?_
        refine lv_bipush (v := 91) hx hb dX12_atom_114 (by decide) ?_
        obtain ⟨v9, σ10, hm11, h⟩ := bi_e h
        refine xr_calli (res := (v9, σ10)) (va_runV (As := [.int 91]) (rest := []) ⟨hx, hb, hml, hown, hts⟩ (k_X12_is l Z   σ6 91 hm11) (cwV 1 hts gX12_atom_X12_is rfl rfl rfl (by decide +kernel) ⟨by first | (dsimp only [rmq, rmb]; omega) | omega, by first | (dsimp only [rmq, rmb]; omega) | omega⟩) ⟨wx_blind, wr_recv hK hP (k := 0) (by decide) ((tM_0 Z) _ _ _) rfl, fun U hU hW => ⟨rfl, wx_at hE hJ hP hK hS hU hW⟩⟩ rfl rfl hl.1 rfl (lv_room (Nat.le_of_ble_eq_true rfl)) dX12_atom_116 ⟨Nat.le_of_ble_eq_true rfl, Nat.le_of_ble_eq_true rfl⟩) hS (fun H locs hP hS => ?_)
        have hP : ws_P (zD Z) vwCl 24 (za Z) (tM Z) σ10 H := hP
        refine lv_if_eq (tgt := 127) hx hb dX12_atom_119 (by decide) (fun q12 => ?_) (fun q12 => ?_)
        · have h := if_p h q12
          refine lv_aload_n hx hb dX12_atom_127 rfl (lv_at hl 0 rfl) ?_
          refine lv_aload_n hx hb dX12_atom_128 rfl (lv_at hl 0 rfl) ?_
          refine lv_bipush (v := 46) hx hb dX12_atom_129 (by decide) ?_
          obtain ⟨v13, σ14, hm15, h⟩ := bi_e h
          refine xr_calli (res := (v13, σ14)) (va_runV (As := [.int 46]) (rest := [.ref (za Z 0)]) ⟨hx, hb, hml, hown, hts⟩ (k_X12_is l Z   σ10 46 hm15) (cwV 1 hts gX12_atom_X12_is rfl rfl rfl (by decide +kernel) ⟨by first | (dsimp only [rmq, rmb]; omega) | omega, by first | (dsimp only [rmq, rmb]; omega) | omega⟩) ⟨wx_blind, wr_recv hK hP (k := 0) (by decide) ((tM_0 Z) _ _ _) rfl, fun U hU hW => ⟨rfl, wx_at hE hJ hP hK hS hU hW⟩⟩ rfl rfl hl.1 rfl (lv_room (Nat.le_of_ble_eq_true rfl)) dX12_atom_131 ⟨Nat.le_of_ble_eq_true rfl, Nat.le_of_ble_eq_true rfl⟩) hS (fun H locs hP hS => ?_)
          have hP : ws_P (zD Z) vwCl 24 (za Z) (tM Z) σ14 H := hP
          refine lv_if_eq (tgt := 141) hx hb dX12_atom_134 (by decide) (fun q16 => ?_) (fun q16 => ?_)
          · have h := if_p h q16
            refine lv_iconst (v := 3) hx hb dX12_atom_141 (by decide) ?_
            exact kb_X12_atom_142 Z d f_X12_alternatives hf_X12_alternatives   C   σ14 3 h H locs hP hS ls (lv_sub hl [0] rfl)
          · have h := if_n h q16
            refine lv_iconst (v := 2) hx hb dX12_atom_137 (by decide) ?_
            refine lv_goto (tgt := 142) hx hb dX12_atom_138 (by decide) ?_
            exact kb_X12_atom_142 Z d f_X12_alternatives hf_X12_alternatives   C   σ14 2 h H locs hP hS ls (lv_sub hl [0] rfl)
        · have h := if_n h q12
          refine lv_aload_n hx hb dX12_atom_122 rfl (lv_at hl 0 rfl) ?_
          obtain ⟨v17, σ18, hm19, h⟩ := bi_e h
          refine xr_calli (res := (v17, σ18)) (va_runV (As := []) (rest := []) ⟨hx, hb, hml, hown, hts⟩ (k_X12_range l Z   σ10  hm19) (cwV 0 hts gX12_atom_X12_range rfl rfl rfl (by decide +kernel) ⟨by first | (dsimp only [rmq, rmb]; omega) | omega, by first | (dsimp only [rmq, rmb]; omega) | omega⟩) ⟨wx_blind, wr_recv hK hP (k := 0) (by decide) ((tM_0 Z) _ _ _) rfl, fun U hU hW => ⟨rfl, wx_at hE hJ hP hK hS hU hW⟩⟩ rfl rfl hl.1 rfl (lv_room (Nat.le_of_ble_eq_true rfl)) dX12_atom_123 ⟨Nat.le_of_ble_eq_true rfl, Nat.le_of_ble_eq_true rfl⟩) hS (fun H locs hP hS => ?_)
          have hP : ws_P (zD Z) vwCl 24 (za Z) (tM Z) σ18 H := hP
          exact xr_iret hx hb hr hlocks hE hJ hK hP hS h dX12_atom_126
      · have h := if_n h (fun z => z q8)
        refine lv_aload_n hx hb dX12_atom_96 rfl (lv_at hl 0 rfl) ?_
        refine wr_get (C := RX12) (T := TX12) (N := 41) hx hb hts (in_X12_atom_X12) hown hK hP (k := 0) (by decide) ((tM_0 Z) _ _ _) rfl 11 (by decide) (hts (.fieldLink RX12 116 "TuneSearchModel" "what" "I") (by decide +kernel)) (fun _ h9 => h9) rfl dX12_atom_97 ?_
        refine lv_topi (fun v20 e21 => ?_)
        have h := lS_u h e21
        refine lv_istore_n (lv' := [(1, .int v20), (0, .ref (za Z 0))]) hx hb dX12_atom_100 rfl hl (by decide) rfl (fun ls hl => ?_)
        refine lv_aload_n hx hb dX12_atom_101 rfl (lv_at hl 1 rfl) ?_
        obtain ⟨v22, σ23, hm24, h⟩ := bi_e h
        refine xr_callv (res := (v22, σ23)) (va_runV (As := []) (rest := []) ⟨hx, hb, hml, hown, hts⟩ (k_X12_next l Z   σ6  hm24) (cwV 0 hts gX12_atom_X12_next rfl rfl rfl (by decide +kernel) ⟨by first | (dsimp only [rmq, rmb]; omega) | omega, by first | (dsimp only [rmq, rmb]; omega) | omega⟩) ⟨wx_blind, wr_recv hK hP (k := 0) (by decide) ((tM_0 Z) _ _ _) rfl, fun U hU hW => ⟨rfl, wx_at hE hJ hP hK hS hU hW⟩⟩ rfl rfl hl.1 rfl (lv_room (Nat.le_of_ble_eq_true rfl)) dX12_atom_102 ⟨Nat.le_of_ble_eq_true rfl, Nat.le_of_ble_eq_true rfl⟩) hS (fun H locs hP hS => ?_)
        have hP : ws_P (zD Z) vwCl 24 (za Z) (tM Z) σ23 H := hP
        refine lv_aload_n hx hb dX12_atom_105 rfl (lv_at hl 1 rfl) ?_
        refine lv_iconst (v := 1) hx hb dX12_atom_106 (by decide) ?_
        refine lv_iload_n hx hb dX12_atom_107 rfl (lv_at hl 0 rfl) ?_
        refine lv_iload_n hx hb dX12_atom_108 rfl (lv_at hl 0 rfl) ?_
        obtain ⟨v25, σ26, hm27, h⟩ := bi_e h
        refine xr_calli (res := (v25, σ26)) (va_runV (As := [.int 1, .int v20, .int v20]) (rest := []) ⟨hx, hb, hml, hown, hts⟩ (k_X12_node l Z   σ23 1 v20 v20 hm27) (cwV 3 hts gX12_atom_X12_node rfl rfl rfl (by decide +kernel) ⟨by first | (dsimp only [rmq, rmb]; omega) | omega, by first | (dsimp only [rmq, rmb]; omega) | omega⟩) ⟨wx_blind, wr_recv hK hP (k := 0) (by decide) ((tM_0 Z) _ _ _) rfl, fun U hU hW => ⟨rfl, wx_at hE hJ hP hK hS hU hW⟩⟩ rfl rfl hl.1 rfl (lv_room (Nat.le_of_ble_eq_true rfl)) dX12_atom_109 ⟨Nat.le_of_ble_eq_true rfl, Nat.le_of_ble_eq_true rfl⟩) hS (fun H locs hP hS => ?_)
        have hP : ws_P (zD Z) vwCl 24 (za Z) (tM Z) σ26 H := hP
        exact xr_iret hx hb hr hlocks hE hJ hK hP hS h dX12_atom_112
    · have h := if_n h (fun z => z q5)
      refine lv_aload_n hx hb dX12_atom_71 rfl (lv_at hl 0 rfl) ?_
      refine lv_iconst (v := 4) hx hb dX12_atom_72 (by decide) ?_
      obtain ⟨v28, σ29, hm30, h⟩ := bi_e h
      refine xr_callv (res := (v28, σ29)) (va_runV (As := [.int 4]) (rest := []) ⟨hx, hb, hml, hown, hts⟩ (k_X12_fault l Z   σ2 4 hm30) (cwV 1 hts gX12_atom_X12_fault rfl rfl rfl (by decide +kernel) ⟨by first | (dsimp only [rmq, rmb]; omega) | omega, by first | (dsimp only [rmq, rmb]; omega) | omega⟩) ⟨wx_blind, wr_recv hK hP (k := 0) (by decide) ((tM_0 Z) _ _ _) rfl, fun U hU hW => ⟨rfl, wx_at hE hJ hP hK hS hU hW⟩⟩ rfl rfl hl.1 rfl (lv_room (Nat.le_of_ble_eq_true rfl)) dX12_atom_73 ⟨Nat.le_of_ble_eq_true rfl, Nat.le_of_ble_eq_true rfl⟩) hS (fun H locs hP hS => ?_)
      have hP : ws_P (zD Z) vwCl 24 (za Z) (tM Z) σ29 H := hP
      refine lv_iconst (v := 0) hx hb dX12_atom_76 (by decide) ?_
      exact xr_iret hx hb hr hlocks hE hJ hK hP hS h dX12_atom_77
  · have h := if_n h q4
    refine lv_aload_n hx hb dX12_atom_9 rfl (lv_at hl 0 rfl) ?_
    refine wr_get (C := RX12) (T := TX12) (N := 41) hx hb hts (in_X12_atom_X12) hown hK hP (k := 0) (by decide) ((tM_0 Z) _ _ _) rfl 20 (by decide) (hts (.fieldLink RX12 167 "TuneSearchModel" "open" "I") (by decide +kernel)) (fun _ h9 => h9) rfl dX12_atom_10 ?_
    refine lv_bipush (v := 8) hx hb dX12_atom_13 (by decide) ?_
    refine lv_icmp_ne (tgt := 25) hx hb dX12_atom_15 (by decide) (fun q31 => ?_) (fun q31 => ?_)
    · have h := if_p h q31
      refine lv_aload_n hx hb dX12_atom_25 rfl (lv_at hl 0 rfl) ?_
      refine lv_dup hx hb dX12_atom_26 rfl ?_
      refine wr_get (C := RX12) (T := TX12) (N := 41) hx hb hts (in_X12_atom_X12) hown hK hP (k := 0) (by decide) ((tM_0 Z) _ _ _) rfl 20 (by decide) (hts (.fieldLink RX12 167 "TuneSearchModel" "open" "I") (by decide +kernel)) (fun _ h9 => h9) rfl dX12_atom_27 ?_
      refine lv_iconst (v := 1) hx hb dX12_atom_30 (by decide) ?_
      refine lv_iadd hx hb dX12_atom_31 ?_
      refine wr_put (C := RX12) (T := TX12) (N := 41) (σ' := sI σ2 0 20 ((σ2.1 0 20) + 1)) (ty := .int) hx hb hts (in_X12_atom_X12) tyX12 tyX12_ok nmX12 hown hK hP hJ hS (k := 0) (by decide) ((tM_0 Z) _ _ _) rfl 20 (by decide) (hts (.fieldLink RX12 167 "TuneSearchModel" "open" "I") (by decide +kernel)) (fun _ h9 => h9) rfl (by decide +kernel) rfl rfl (Nat.le_of_ble_eq_true rfl) (ws_pI (tM_0 Z) rfl) dX12_atom_32 (fun H locs hP hS => ?_)
      obtain ⟨σ32, e33, h⟩ := lS_e h
      rw [← e33] at hP
      refine lv_aload_n hx hb dX12_atom_35 rfl (lv_at hl 0 rfl) ?_
      obtain ⟨v34, σ35, hm36, h⟩ := bi_e h
      refine xr_callv (res := (v34, σ35)) (va_runV (As := []) (rest := []) ⟨hx, hb, hml, hown, hts⟩ (k_X12_next l Z   σ32  hm36) (cwV 0 hts gX12_atom_X12_next rfl rfl rfl (by decide +kernel) ⟨by first | (dsimp only [rmq, rmb]; omega) | omega, by first | (dsimp only [rmq, rmb]; omega) | omega⟩) ⟨wx_blind, wr_recv hK hP (k := 0) (by decide) ((tM_0 Z) _ _ _) rfl, fun U hU hW => ⟨rfl, wx_at hE hJ hP hK hS hU hW⟩⟩ rfl rfl hl.1 rfl (lv_room (Nat.le_of_ble_eq_true rfl)) dX12_atom_36 ⟨Nat.le_of_ble_eq_true rfl, Nat.le_of_ble_eq_true rfl⟩) hS (fun H locs hP hS => ?_)
      have hP : ws_P (zD Z) vwCl 24 (za Z) (tM Z) σ35 H := hP
      refine lv_aload_n hx hb dX12_atom_39 rfl (lv_at hl 0 rfl) ?_
      obtain ⟨v37, σ38, hm39, h⟩ := bi_e h
      refine xr_calli (res := (v37, σ38)) (va_runV (As := []) (rest := []) ⟨hx, hb, hml, hown, hts⟩ (hf_X12_alternatives σ35  _ hm39) (cwV 0 hts gX12_atom_X12_alternatives rfl rfl rfl (by decide +kernel) ⟨by first | (dsimp only [rmq, rmb]; omega) | omega, by first | (dsimp only [rmq, rmb]; omega) | omega⟩) ⟨wx_blind, wr_recv hK hP (k := 0) (by decide) ((tM_0 Z) _ _ _) rfl, fun U hU hW => ⟨rfl, wx_at hE hJ hP hK hS hU hW⟩⟩ rfl rfl hl.1 rfl (lv_room (Nat.le_of_ble_eq_true rfl)) dX12_atom_40 ⟨Nat.le_of_ble_eq_true rfl, Nat.le_of_ble_eq_true rfl⟩) hS (fun H locs hP hS => ?_)
      have hP : ws_P (zD Z) vwCl 24 (za Z) (tM Z) σ38 H := hP
      refine lv_istore_n (lv' := [(1, .int v37), (0, .ref (za Z 0))]) hx hb dX12_atom_43 rfl hl (by decide) rfl (fun ls hl => ?_)
      refine lv_aload_n hx hb dX12_atom_44 rfl (lv_at hl 1 rfl) ?_
      refine lv_bipush (v := 41) hx hb dX12_atom_45 (by decide) ?_
      obtain ⟨v40, σ41, hm42, h⟩ := bi_e h
      refine xr_callv (res := (v40, σ41)) (va_runV (As := [.int 41]) (rest := []) ⟨hx, hb, hml, hown, hts⟩ (k_X12_take l Z   σ38 41 hm42) (cwV 1 hts gX12_atom_X12_take rfl rfl rfl (by decide +kernel) ⟨by first | (dsimp only [rmq, rmb]; omega) | omega, by first | (dsimp only [rmq, rmb]; omega) | omega⟩) ⟨wx_blind, wr_recv hK hP (k := 0) (by decide) ((tM_0 Z) _ _ _) rfl, fun U hU hW => ⟨rfl, wx_at hE hJ hP hK hS hU hW⟩⟩ rfl rfl hl.1 rfl (lv_room (Nat.le_of_ble_eq_true rfl)) dX12_atom_47 ⟨Nat.le_of_ble_eq_true rfl, Nat.le_of_ble_eq_true rfl⟩) hS (fun H locs hP hS => ?_)
      have hP : ws_P (zD Z) vwCl 24 (za Z) (tM Z) σ41 H := hP
      refine lv_aload_n hx hb dX12_atom_50 rfl (lv_at hl 1 rfl) ?_
      refine lv_dup hx hb dX12_atom_51 rfl ?_
      refine wr_get (C := RX12) (T := TX12) (N := 41) hx hb hts (in_X12_atom_X12) hown hK hP (k := 0) (by decide) ((tM_0 Z) _ _ _) rfl 20 (by decide) (hts (.fieldLink RX12 167 "TuneSearchModel" "open" "I") (by decide +kernel)) (fun _ h9 => h9) rfl dX12_atom_52 ?_
      refine lv_iconst (v := 1) hx hb dX12_atom_55 (by decide) ?_
      refine lv_isub hx hb dX12_atom_56 ?_
      refine wr_put (C := RX12) (T := TX12) (N := 41) (σ' := sI σ41 0 20 ((σ41.1 0 20) - 1)) (ty := .int) hx hb hts (in_X12_atom_X12) tyX12 tyX12_ok nmX12 hown hK hP hJ hS (k := 0) (by decide) ((tM_0 Z) _ _ _) rfl 20 (by decide) (hts (.fieldLink RX12 167 "TuneSearchModel" "open" "I") (by decide +kernel)) (fun _ h9 => h9) rfl (by decide +kernel) rfl rfl (Nat.le_of_ble_eq_true rfl) (ws_pI (tM_0 Z) rfl) dX12_atom_57 (fun H locs hP hS => ?_)
      obtain ⟨σ43, e44, h⟩ := lS_e h
      rw [← e44] at hP
      refine lv_iload_n hx hb dX12_atom_60 rfl (lv_at hl 0 rfl) ?_
      exact xr_iret hx hb hr hlocks hE hJ hK hP hS h dX12_atom_61
    · have h := if_n h (fun z => z q31)
      refine lv_aload_n hx hb dX12_atom_18 rfl (lv_at hl 0 rfl) ?_
      refine lv_iconst (v := 4) hx hb dX12_atom_19 (by decide) ?_
      obtain ⟨v45, σ46, hm47, h⟩ := bi_e h
      refine xr_callv (res := (v45, σ46)) (va_runV (As := [.int 4]) (rest := []) ⟨hx, hb, hml, hown, hts⟩ (k_X12_fault l Z   σ2 4 hm47) (cwV 1 hts gX12_atom_X12_fault rfl rfl rfl (by decide +kernel) ⟨by first | (dsimp only [rmq, rmb]; omega) | omega, by first | (dsimp only [rmq, rmb]; omega) | omega⟩) ⟨wx_blind, wr_recv hK hP (k := 0) (by decide) ((tM_0 Z) _ _ _) rfl, fun U hU hW => ⟨rfl, wx_at hE hJ hP hK hS hU hW⟩⟩ rfl rfl hl.1 rfl (lv_room (Nat.le_of_ble_eq_true rfl)) dX12_atom_20 ⟨Nat.le_of_ble_eq_true rfl, Nat.le_of_ble_eq_true rfl⟩) hS (fun H locs hP hS => ?_)
      have hP : ws_P (zD Z) vwCl 24 (za Z) (tM Z) σ46 H := hP
      refine lv_iconst (v := 0) hx hb dX12_atom_23 (by decide) ?_
      exact xr_iret hx hb hr hlocks hE hJ hK hP hS h dX12_atom_24
def m_X12_atom (f_X12_alternatives : SG → Option (Int32 × SG))  (σ : SG)  : Option (Int32 × SG) := m_X12_atom_0 f_X12_alternatives  σ 
set_option maxHeartbeats 4000000 in
set_option maxRecDepth 100000 in
theorem k_X12_atom (l : Launch) (Z : ZT) (d : Nat) (f_X12_alternatives : SG → Option (Int32 × SG)) (hf_X12_alternatives : ∀ (σ : SG)  (res : Int32 × SG), f_X12_alternatives σ  = some res → Met l yX12_alternatives wsX12_alternatives (rmq 19 d) (va_Pc [.ref (za Z 0)] (wx (EM Z) (zD Z) vwCl 24 (za Z) (tM Z) (tysM Z) σ)) (xQi (EM Z) (zD Z) vwCl 24 (za Z) (tM Z) (tysM Z) res) 0 0 (ws_A 24 (za Z)))   (σ : SG)  {res : Int32 × SG} (h : m_X12_atom f_X12_alternatives  σ  = some res) : Met l yX12_atom wsX12_atom (rmq 16 (d + 1)) (va_Pc [.ref (za Z 0)] (wx (EM Z) (zD Z) vwCl 24 (za Z) (tM Z) (tysM Z) σ)) (xQi (EM Z) (zD Z) vwCl 24 (za Z) (tM Z) (tysM Z) res) 0 0 (ws_A 24 (za Z)) := by
  refine Met.ofW (cc := cX12_atom) (maxL := 2) (ret := (some .int)) (by decide) rfl ?_
  intro p e s m args below meth c s₁ B hml hv
  obtain ⟨rfl, hE, hJ, hP, hK⟩ := hv
  have hl := lv_entry ([.ref (za Z 0)]) (n := 2) (Nat.le_of_ble_eq_true rfl)
  rw [lg_entry_eq]
  generalize (lg_sl ([.ref (za Z 0)]) ++ List.replicate (2 - (lg_sl ([.ref (za Z 0)])).length) Slot.unset).toArray = ls at hl ⊢
  exact kb_X12_atom_0 Z d f_X12_alternatives hf_X12_alternatives   ⟨B.exec, B.bytes, B.returns, B.notSynchronized, hml, findClass_of_methodNamed B.named, atoms_spec (ws := wsX12_atom) B.pre, hE, hJ, hK⟩ σ  h s.heap [] hP va_S.rf ls hl
/-! TuneSearchModel.item()I -/
theorem in_X12_item_X12 : ∀ w ∈ wsX120, w ∈ wsX12_item := by decide +kernel
def m_X12_item_63 (f_X12_atom : SG → Option (Int32 × SG))   (σ : SG) (l1 : Int32) (s0 : Int32) : Option (Int32 × SG) :=
  bi (m_X12_node  σ s0 l1 0) (fun v18 σ19 => bi (m_X12_next  σ19 ) (fun v21 σ22 => some (v18, σ22)))
set_option maxHeartbeats 4000000 in
set_option maxRecDepth 100000 in
theorem kb_X12_item_63 {p : Program} {l : Launch} {e : Env} {s : State} {m : MethodId} {args : Array Value} {below : List Frame} {meth : Method} {c : Code} (Z : ZT) (d : Nat) (f_X12_atom : SG → Option (Int32 × SG)) (hf_X12_atom : ∀ (σ : SG)  (res : Int32 × SG), f_X12_atom σ  = some res → Met l yX12_atom wsX12_atom (rmq 16 d) (va_Pc [.ref (za Z 0)] (wx (EM Z) (zD Z) vwCl 24 (za Z) (tM Z) (tysM Z) σ)) (xQi (EM Z) (zD Z) vwCl 24 (za Z) (tM Z) (tysM Z) res) 0 0 (ws_A 24 (za Z)))   (C : cy p s m args meth c cX12_item (some .int) 2 RX12 wsX12_item (EM Z) (zD Z) vwCl 24 (za Z) (tysM Z)) {res : Int32 × SG}   : ∀ (σ : SG) (l1 : Int32) (s0 : Int32) , m_X12_item_63 f_X12_atom   σ l1 s0 = some res → ∀ (H : Heap) (locs : List Loc), ws_P (zD Z) vwCl 24 (za Z) (tM Z) σ H → va_S (ws_A 24 (za Z)) s.heap H locs → ∀ (ls : Array Slot), lv_has ls 2 [(0, .ref (za Z 0)), (1, .int l1)] → W p l e (rmq 17 d) s m args below meth c H locs 0 0 (MQ below (xQi (EM Z) (zD Z) vwCl 24 (za Z) (tM Z) (tysM Z) res) args s 0 0 (ws_A 24 (za Z))) (F0 m 63 ls [.int s0, .ref (za Z 0)]) := by
  have C0 := C
  obtain ⟨hx, hb, hr, hlocks, hml, hown, hts, hE, hJ, hK⟩ := C0
  intro σ l1 s0  h H locs hP hS ls hl
  unfold m_X12_item_63 at h
  refine lv_iload_n hx hb dX12_item_63 rfl (lv_at hl 1 rfl) ?_
  refine lv_iconst (v := 0) hx hb dX12_item_64 (by decide) ?_
  obtain ⟨v18, σ19, hm20, h⟩ := bi_e h
  refine xr_calli (res := (v18, σ19)) (va_runV (As := [.int s0, .int l1, .int 0]) (rest := []) ⟨hx, hb, hml, hown, hts⟩ (k_X12_node l Z   σ s0 l1 0 hm20) (cwV 3 hts gX12_item_X12_node rfl rfl rfl (by decide +kernel) ⟨by first | (dsimp only [rmq, rmb]; omega) | omega, by first | (dsimp only [rmq, rmb]; omega) | omega⟩) ⟨wx_blind, wr_recv hK hP (k := 0) (by decide) ((tM_0 Z) _ _ _) rfl, fun U hU hW => ⟨rfl, wx_at hE hJ hP hK hS hU hW⟩⟩ rfl rfl hl.1 rfl (lv_room (Nat.le_of_ble_eq_true rfl)) dX12_item_65 ⟨Nat.le_of_ble_eq_true rfl, Nat.le_of_ble_eq_true rfl⟩) hS (fun H locs hP hS => ?_)
  have hP : ws_P (zD Z) vwCl 24 (za Z) (tM Z) σ19 H := hP
  refine lv_istore_n (lv' := [(1, .int v18), (0, .ref (za Z 0))]) hx hb dX12_item_68 rfl hl (by decide) rfl (fun ls hl => ?_)
  refine lv_aload_n hx hb dX12_item_69 rfl (lv_at hl 1 rfl) ?_
  obtain ⟨v21, σ22, hm23, h⟩ := bi_e h
  refine xr_callv (res := (v21, σ22)) (va_runV (As := []) (rest := []) ⟨hx, hb, hml, hown, hts⟩ (k_X12_next l Z   σ19  hm23) (cwV 0 hts gX12_item_X12_next rfl rfl rfl (by decide +kernel) ⟨by first | (dsimp only [rmq, rmb]; omega) | omega, by first | (dsimp only [rmq, rmb]; omega) | omega⟩) ⟨wx_blind, wr_recv hK hP (k := 0) (by decide) ((tM_0 Z) _ _ _) rfl, fun U hU hW => ⟨rfl, wx_at hE hJ hP hK hS hU hW⟩⟩ rfl rfl hl.1 rfl (lv_room (Nat.le_of_ble_eq_true rfl)) dX12_item_70 ⟨Nat.le_of_ble_eq_true rfl, Nat.le_of_ble_eq_true rfl⟩) hS (fun H locs hP hS => ?_)
  have hP : ws_P (zD Z) vwCl 24 (za Z) (tM Z) σ22 H := hP
  refine lv_iload_n hx hb dX12_item_73 rfl (lv_at hl 0 rfl) ?_
  exact xr_iret hx hb hr hlocks hE hJ hK hP hS h dX12_item_74
def m_X12_item_32 (f_X12_atom : SG → Option (Int32 × SG))   (σ : SG) (l1 : Int32) : Option (Int32 × SG) :=
  if ¬ (σ.1 0 11) = 42 then (if ¬ (σ.1 0 11) = 43 then (m_X12_item_63 f_X12_atom   σ l1 8) else (m_X12_item_63 f_X12_atom   σ l1 7)) else (m_X12_item_63 f_X12_atom   σ l1 6)
set_option maxHeartbeats 4000000 in
set_option maxRecDepth 100000 in
theorem kb_X12_item_32 {p : Program} {l : Launch} {e : Env} {s : State} {m : MethodId} {args : Array Value} {below : List Frame} {meth : Method} {c : Code} (Z : ZT) (d : Nat) (f_X12_atom : SG → Option (Int32 × SG)) (hf_X12_atom : ∀ (σ : SG)  (res : Int32 × SG), f_X12_atom σ  = some res → Met l yX12_atom wsX12_atom (rmq 16 d) (va_Pc [.ref (za Z 0)] (wx (EM Z) (zD Z) vwCl 24 (za Z) (tM Z) (tysM Z) σ)) (xQi (EM Z) (zD Z) vwCl 24 (za Z) (tM Z) (tysM Z) res) 0 0 (ws_A 24 (za Z)))   (C : cy p s m args meth c cX12_item (some .int) 2 RX12 wsX12_item (EM Z) (zD Z) vwCl 24 (za Z) (tysM Z)) {res : Int32 × SG}   : ∀ (σ : SG) (l1 : Int32) , m_X12_item_32 f_X12_atom   σ l1 = some res → ∀ (H : Heap) (locs : List Loc), ws_P (zD Z) vwCl 24 (za Z) (tM Z) σ H → va_S (ws_A 24 (za Z)) s.heap H locs → ∀ (ls : Array Slot), lv_has ls 2 [(0, .ref (za Z 0)), (1, .int l1)] → W p l e (rmq 17 d) s m args below meth c H locs 0 0 (MQ below (xQi (EM Z) (zD Z) vwCl 24 (za Z) (tM Z) (tysM Z) res) args s 0 0 (ws_A 24 (za Z))) (F0 m 32 ls []) := by
  have C0 := C
  obtain ⟨hx, hb, hr, hlocks, hml, hown, hts, hE, hJ, hK⟩ := C0
  intro σ l1  h H locs hP hS ls hl
  unfold m_X12_item_32 at h
  refine lv_aload_n hx hb dX12_item_32 rfl (lv_at hl 0 rfl) ?_
  refine lv_aload_n hx hb dX12_item_33 rfl (lv_at hl 0 rfl) ?_
  refine wr_get (C := RX12) (T := TX12) (N := 41) hx hb hts (in_X12_item_X12) hown hK hP (k := 0) (by decide) ((tM_0 Z) _ _ _) rfl 11 (by decide) (hts (.fieldLink RX12 116 "TuneSearchModel" "what" "I") (by decide +kernel)) (fun _ h9 => h9) rfl dX12_item_34 ?_
  refine lv_bipush (v := 42) hx hb dX12_item_37 (by decide) ?_
  refine lv_icmp_ne (tgt := 47) hx hb dX12_item_39 (by decide) (fun q16 => ?_) (fun q16 => ?_)
  · have h := if_p h q16
    refine lv_aload_n hx hb dX12_item_47 rfl (lv_at hl 0 rfl) ?_
    refine wr_get (C := RX12) (T := TX12) (N := 41) hx hb hts (in_X12_item_X12) hown hK hP (k := 0) (by decide) ((tM_0 Z) _ _ _) rfl 11 (by decide) (hts (.fieldLink RX12 116 "TuneSearchModel" "what" "I") (by decide +kernel)) (fun _ h9 => h9) rfl dX12_item_48 ?_
    refine lv_bipush (v := 43) hx hb dX12_item_51 (by decide) ?_
    refine lv_icmp_ne (tgt := 61) hx hb dX12_item_53 (by decide) (fun q17 => ?_) (fun q17 => ?_)
    · have h := if_p h q17
      refine lv_bipush (v := 8) hx hb dX12_item_61 (by decide) ?_
      exact kb_X12_item_63 Z d f_X12_atom hf_X12_atom   C   σ l1 8 h H locs hP hS ls (lv_sub hl [0, 1] rfl)
    · have h := if_n h (fun z => z q17)
      refine lv_bipush (v := 7) hx hb dX12_item_56 (by decide) ?_
      refine lv_goto (tgt := 63) hx hb dX12_item_58 (by decide) ?_
      exact kb_X12_item_63 Z d f_X12_atom hf_X12_atom   C   σ l1 7 h H locs hP hS ls (lv_sub hl [0, 1] rfl)
  · have h := if_n h (fun z => z q16)
    refine lv_bipush (v := 6) hx hb dX12_item_42 (by decide) ?_
    refine lv_goto (tgt := 63) hx hb dX12_item_44 (by decide) ?_
    exact kb_X12_item_63 Z d f_X12_atom hf_X12_atom   C   σ l1 6 h H locs hP hS ls (lv_sub hl [0, 1] rfl)
def m_X12_item_0 (f_X12_atom : SG → Option (Int32 × SG))   (σ : SG)  : Option (Int32 × SG) :=
  bi (f_X12_atom σ ) (fun v1 σ2 => bi (m_X12_is  σ2 42) (fun v4 σ5 => if ¬ v4 = 0 then (m_X12_item_32 f_X12_atom   σ5 v1) else (bi (m_X12_is  σ5 43) (fun v8 σ9 => if ¬ v8 = 0 then (m_X12_item_32 f_X12_atom   σ9 v1) else (bi (m_X12_is  σ9 63) (fun v12 σ13 => if v12 = 0 then (some (v1, σ13)) else (m_X12_item_32 f_X12_atom   σ13 v1)))))))
set_option maxHeartbeats 4000000 in
set_option maxRecDepth 100000 in
theorem kb_X12_item_0 {p : Program} {l : Launch} {e : Env} {s : State} {m : MethodId} {args : Array Value} {below : List Frame} {meth : Method} {c : Code} (Z : ZT) (d : Nat) (f_X12_atom : SG → Option (Int32 × SG)) (hf_X12_atom : ∀ (σ : SG)  (res : Int32 × SG), f_X12_atom σ  = some res → Met l yX12_atom wsX12_atom (rmq 16 d) (va_Pc [.ref (za Z 0)] (wx (EM Z) (zD Z) vwCl 24 (za Z) (tM Z) (tysM Z) σ)) (xQi (EM Z) (zD Z) vwCl 24 (za Z) (tM Z) (tysM Z) res) 0 0 (ws_A 24 (za Z)))   (C : cy p s m args meth c cX12_item (some .int) 2 RX12 wsX12_item (EM Z) (zD Z) vwCl 24 (za Z) (tysM Z)) {res : Int32 × SG}   : ∀ (σ : SG)  , m_X12_item_0 f_X12_atom   σ  = some res → ∀ (H : Heap) (locs : List Loc), ws_P (zD Z) vwCl 24 (za Z) (tM Z) σ H → va_S (ws_A 24 (za Z)) s.heap H locs → ∀ (ls : Array Slot), lv_has ls 2 [(0, .ref (za Z 0))] → W p l e (rmq 17 d) s m args below meth c H locs 0 0 (MQ below (xQi (EM Z) (zD Z) vwCl 24 (za Z) (tM Z) (tysM Z) res) args s 0 0 (ws_A 24 (za Z))) (F0 m 0 ls []) := by
  have C0 := C
  obtain ⟨hx, hb, hr, hlocks, hml, hown, hts, hE, hJ, hK⟩ := C0
  intro σ   h H locs hP hS ls hl
  unfold m_X12_item_0 at h
  refine lv_aload_n hx hb dX12_item_0 rfl (lv_at hl 0 rfl) ?_
  obtain ⟨v1, σ2, hm3, h⟩ := bi_e h
  refine xr_calli (res := (v1, σ2)) (va_runV (As := []) (rest := []) ⟨hx, hb, hml, hown, hts⟩ (hf_X12_atom σ  _ hm3) (cwV 0 hts gX12_item_X12_atom rfl rfl rfl (by decide +kernel) ⟨by first | (dsimp only [rmq, rmb]; omega) | omega, by first | (dsimp only [rmq, rmb]; omega) | omega⟩) ⟨wx_blind, wr_recv hK hP (k := 0) (by decide) ((tM_0 Z) _ _ _) rfl, fun U hU hW => ⟨rfl, wx_at hE hJ hP hK hS hU hW⟩⟩ rfl rfl hl.1 rfl (lv_room (Nat.le_of_ble_eq_true rfl)) dX12_item_1 ⟨Nat.le_of_ble_eq_true rfl, Nat.le_of_ble_eq_true rfl⟩) hS (fun H locs hP hS => ?_)
  have hP : ws_P (zD Z) vwCl 24 (za Z) (tM Z) σ2 H := hP
  refine lv_istore_n (lv' := [(1, .int v1), (0, .ref (za Z 0))]) hx hb dX12_item_4 rfl hl (by decide) rfl (fun ls hl => ?_)
  refine lv_aload_n hx hb dX12_item_5 rfl (lv_at hl 1 rfl) ?_
  refine lv_bipush (v := 42) hx hb dX12_item_6 (by decide) ?_
  obtain ⟨v4, σ5, hm6, h⟩ := bi_e h
  refine xr_calli (res := (v4, σ5)) (va_runV (As := [.int 42]) (rest := []) ⟨hx, hb, hml, hown, hts⟩ (k_X12_is l Z   σ2 42 hm6) (cwV 1 hts gX12_item_X12_is rfl rfl rfl (by decide +kernel) ⟨by first | (dsimp only [rmq, rmb]; omega) | omega, by first | (dsimp only [rmq, rmb]; omega) | omega⟩) ⟨wx_blind, wr_recv hK hP (k := 0) (by decide) ((tM_0 Z) _ _ _) rfl, fun U hU hW => ⟨rfl, wx_at hE hJ hP hK hS hU hW⟩⟩ rfl rfl hl.1 rfl (lv_room (Nat.le_of_ble_eq_true rfl)) dX12_item_8 ⟨Nat.le_of_ble_eq_true rfl, Nat.le_of_ble_eq_true rfl⟩) hS (fun H locs hP hS => ?_)
  have hP : ws_P (zD Z) vwCl 24 (za Z) (tM Z) σ5 H := hP
  refine lv_if_ne (tgt := 32) hx hb dX12_item_11 (by decide) (fun q7 => ?_) (fun q7 => ?_)
  · have h := if_p h q7
    exact kb_X12_item_32 Z d f_X12_atom hf_X12_atom   C   σ5 v1 h H locs hP hS ls (lv_sub hl [1, 0] rfl)
  · have h := if_n h (fun z => z q7)
    refine lv_aload_n hx hb dX12_item_14 rfl (lv_at hl 1 rfl) ?_
    refine lv_bipush (v := 43) hx hb dX12_item_15 (by decide) ?_
    obtain ⟨v8, σ9, hm10, h⟩ := bi_e h
    refine xr_calli (res := (v8, σ9)) (va_runV (As := [.int 43]) (rest := []) ⟨hx, hb, hml, hown, hts⟩ (k_X12_is l Z   σ5 43 hm10) (cwV 1 hts gX12_item_X12_is rfl rfl rfl (by decide +kernel) ⟨by first | (dsimp only [rmq, rmb]; omega) | omega, by first | (dsimp only [rmq, rmb]; omega) | omega⟩) ⟨wx_blind, wr_recv hK hP (k := 0) (by decide) ((tM_0 Z) _ _ _) rfl, fun U hU hW => ⟨rfl, wx_at hE hJ hP hK hS hU hW⟩⟩ rfl rfl hl.1 rfl (lv_room (Nat.le_of_ble_eq_true rfl)) dX12_item_17 ⟨Nat.le_of_ble_eq_true rfl, Nat.le_of_ble_eq_true rfl⟩) hS (fun H locs hP hS => ?_)
    have hP : ws_P (zD Z) vwCl 24 (za Z) (tM Z) σ9 H := hP
    refine lv_if_ne (tgt := 32) hx hb dX12_item_20 (by decide) (fun q11 => ?_) (fun q11 => ?_)
    · have h := if_p h q11
      exact kb_X12_item_32 Z d f_X12_atom hf_X12_atom   C   σ9 v1 h H locs hP hS ls (lv_sub hl [1, 0] rfl)
    · have h := if_n h (fun z => z q11)
      refine lv_aload_n hx hb dX12_item_23 rfl (lv_at hl 1 rfl) ?_
      refine lv_bipush (v := 63) hx hb dX12_item_24 (by decide) ?_
      obtain ⟨v12, σ13, hm14, h⟩ := bi_e h
      refine xr_calli (res := (v12, σ13)) (va_runV (As := [.int 63]) (rest := []) ⟨hx, hb, hml, hown, hts⟩ (k_X12_is l Z   σ9 63 hm14) (cwV 1 hts gX12_item_X12_is rfl rfl rfl (by decide +kernel) ⟨by first | (dsimp only [rmq, rmb]; omega) | omega, by first | (dsimp only [rmq, rmb]; omega) | omega⟩) ⟨wx_blind, wr_recv hK hP (k := 0) (by decide) ((tM_0 Z) _ _ _) rfl, fun U hU hW => ⟨rfl, wx_at hE hJ hP hK hS hU hW⟩⟩ rfl rfl hl.1 rfl (lv_room (Nat.le_of_ble_eq_true rfl)) dX12_item_26 ⟨Nat.le_of_ble_eq_true rfl, Nat.le_of_ble_eq_true rfl⟩) hS (fun H locs hP hS => ?_)
      have hP : ws_P (zD Z) vwCl 24 (za Z) (tM Z) σ13 H := hP
      refine lv_if_eq (tgt := 73) hx hb dX12_item_29 (by decide) (fun q15 => ?_) (fun q15 => ?_)
      · have h := if_p h q15
        refine lv_iload_n hx hb dX12_item_73 rfl (lv_at hl 0 rfl) ?_
        exact xr_iret hx hb hr hlocks hE hJ hK hP hS h dX12_item_74
      · have h := if_n h q15
        exact kb_X12_item_32 Z d f_X12_atom hf_X12_atom   C   σ13 v1 h H locs hP hS ls (lv_sub hl [1, 0] rfl)
def m_X12_item (f_X12_atom : SG → Option (Int32 × SG))  (σ : SG)  : Option (Int32 × SG) := m_X12_item_0 f_X12_atom  σ 
set_option maxHeartbeats 4000000 in
set_option maxRecDepth 100000 in
theorem k_X12_item (l : Launch) (Z : ZT) (d : Nat) (f_X12_atom : SG → Option (Int32 × SG)) (hf_X12_atom : ∀ (σ : SG)  (res : Int32 × SG), f_X12_atom σ  = some res → Met l yX12_atom wsX12_atom (rmq 16 d) (va_Pc [.ref (za Z 0)] (wx (EM Z) (zD Z) vwCl 24 (za Z) (tM Z) (tysM Z) σ)) (xQi (EM Z) (zD Z) vwCl 24 (za Z) (tM Z) (tysM Z) res) 0 0 (ws_A 24 (za Z)))   (σ : SG)  {res : Int32 × SG} (h : m_X12_item f_X12_atom  σ  = some res) : Met l yX12_item wsX12_item (rmq 17 d) (va_Pc [.ref (za Z 0)] (wx (EM Z) (zD Z) vwCl 24 (za Z) (tM Z) (tysM Z) σ)) (xQi (EM Z) (zD Z) vwCl 24 (za Z) (tM Z) (tysM Z) res) 0 0 (ws_A 24 (za Z)) := by
  refine Met.ofW (cc := cX12_item) (maxL := 2) (ret := (some .int)) (by decide) rfl ?_
  intro p e s m args below meth c s₁ B hml hv
  obtain ⟨rfl, hE, hJ, hP, hK⟩ := hv
  have hl := lv_entry ([.ref (za Z 0)]) (n := 2) (Nat.le_of_ble_eq_true rfl)
  rw [lg_entry_eq]
  generalize (lg_sl ([.ref (za Z 0)]) ++ List.replicate (2 - (lg_sl ([.ref (za Z 0)])).length) Slot.unset).toArray = ls at hl ⊢
  exact kb_X12_item_0 Z d f_X12_atom hf_X12_atom   ⟨B.exec, B.bytes, B.returns, B.notSynchronized, hml, findClass_of_methodNamed B.named, atoms_spec (ws := wsX12_item) B.pre, hE, hJ, hK⟩ σ  h s.heap [] hP va_S.rf ls hl
/-! TuneSearchModel.row()I -/
theorem in_X12_row_X12 : ∀ w ∈ wsX120, w ∈ wsX12_row := by decide +kernel
def m_X12_row_59 (f_X12_item : SG → Option (Int32 × SG))  (c8 : SG → Int32 → Option (Int32 × SG)) (σ : SG) (l1 : Int32) : Option (Int32 × SG) :=
  bi (f_X12_item σ ) (fun v25 σ26 => bi (m_X12_node  σ26 4 l1 v25) (fun v28 σ29 => c8 σ29 v28))
set_option maxHeartbeats 4000000 in
set_option maxRecDepth 100000 in
theorem kb_X12_row_59 {p : Program} {l : Launch} {e : Env} {s : State} {m : MethodId} {args : Array Value} {below : List Frame} {meth : Method} {c : Code} (Z : ZT) (d : Nat) (f_X12_item : SG → Option (Int32 × SG)) (hf_X12_item : ∀ (σ : SG)  (res : Int32 × SG), f_X12_item σ  = some res → Met l yX12_item wsX12_item (rmq 17 d) (va_Pc [.ref (za Z 0)] (wx (EM Z) (zD Z) vwCl 24 (za Z) (tM Z) (tysM Z) σ)) (xQi (EM Z) (zD Z) vwCl 24 (za Z) (tM Z) (tysM Z) res) 0 0 (ws_A 24 (za Z)))   (C : cy p s m args meth c cX12_row (some .int) 2 RX12 wsX12_row (EM Z) (zD Z) vwCl 24 (za Z) (tysM Z)) {res : Int32 × SG} {c8 : SG → Int32 → Option (Int32 × SG)} (hc8 : ∀ (σ : SG) (l1 : Int32) , c8 σ l1 = some res → ∀ (H : Heap) (locs : List Loc), ws_P (zD Z) vwCl 24 (za Z) (tM Z) σ H → va_S (ws_A 24 (za Z)) s.heap H locs → ∀ (ls : Array Slot), lv_has ls 2 [(0, .ref (za Z 0)), (1, .int l1)] → W p l e (rmq 18 d) s m args below meth c H locs 0 0 (MQ below (xQi (EM Z) (zD Z) vwCl 24 (za Z) (tM Z) (tysM Z) res) args s 0 0 (ws_A 24 (za Z))) (F0 m 8 ls [])) : ∀ (σ : SG) (l1 : Int32) , m_X12_row_59 f_X12_item  c8 σ l1 = some res → ∀ (H : Heap) (locs : List Loc), ws_P (zD Z) vwCl 24 (za Z) (tM Z) σ H → va_S (ws_A 24 (za Z)) s.heap H locs → ∀ (ls : Array Slot), lv_has ls 2 [(0, .ref (za Z 0)), (1, .int l1)] → W p l e (rmq 18 d) s m args below meth c H locs 0 0 (MQ below (xQi (EM Z) (zD Z) vwCl 24 (za Z) (tM Z) (tysM Z) res) args s 0 0 (ws_A 24 (za Z))) (F0 m 59 ls []) := by
  have C0 := C
  obtain ⟨hx, hb, hr, hlocks, hml, hown, hts, hE, hJ, hK⟩ := C0
  intro σ l1  h H locs hP hS ls hl
  unfold m_X12_row_59 at h
  refine lv_aload_n hx hb dX12_row_59 rfl (lv_at hl 0 rfl) ?_
  refine lv_iconst (v := 4) hx hb dX12_row_60 (by decide) ?_
  refine lv_iload_n hx hb dX12_row_61 rfl (lv_at hl 1 rfl) ?_
  refine lv_aload_n hx hb dX12_row_62 rfl (lv_at hl 0 rfl) ?_
  obtain ⟨v25, σ26, hm27, h⟩ := bi_e h
  refine xr_calli (res := (v25, σ26)) (va_runV (As := []) (rest := [.int l1, .int 4, .ref (za Z 0)]) ⟨hx, hb, hml, hown, hts⟩ (hf_X12_item σ  _ hm27) (cwV 0 hts gX12_row_X12_item rfl rfl rfl (by decide +kernel) ⟨by first | (dsimp only [rmq, rmb]; omega) | omega, by first | (dsimp only [rmq, rmb]; omega) | omega⟩) ⟨wx_blind, wr_recv hK hP (k := 0) (by decide) ((tM_0 Z) _ _ _) rfl, fun U hU hW => ⟨rfl, wx_at hE hJ hP hK hS hU hW⟩⟩ rfl rfl hl.1 rfl (lv_room (Nat.le_of_ble_eq_true rfl)) dX12_row_63 ⟨Nat.le_of_ble_eq_true rfl, Nat.le_of_ble_eq_true rfl⟩) hS (fun H locs hP hS => ?_)
  have hP : ws_P (zD Z) vwCl 24 (za Z) (tM Z) σ26 H := hP
  obtain ⟨v28, σ29, hm30, h⟩ := bi_e h
  refine xr_calli (res := (v28, σ29)) (va_runV (As := [.int 4, .int l1, .int v25]) (rest := []) ⟨hx, hb, hml, hown, hts⟩ (k_X12_node l Z   σ26 4 l1 v25 hm30) (cwV 3 hts gX12_row_X12_node rfl rfl rfl (by decide +kernel) ⟨by first | (dsimp only [rmq, rmb]; omega) | omega, by first | (dsimp only [rmq, rmb]; omega) | omega⟩) ⟨wx_blind, wr_recv hK hP (k := 0) (by decide) ((tM_0 Z) _ _ _) rfl, fun U hU hW => ⟨rfl, wx_at hE hJ hP hK hS hU hW⟩⟩ rfl rfl hl.1 rfl (lv_room (Nat.le_of_ble_eq_true rfl)) dX12_row_66 ⟨Nat.le_of_ble_eq_true rfl, Nat.le_of_ble_eq_true rfl⟩) hS (fun H locs hP hS => ?_)
  have hP : ws_P (zD Z) vwCl 24 (za Z) (tM Z) σ29 H := hP
  refine lv_istore_n (lv' := [(1, .int v28), (0, .ref (za Z 0))]) hx hb dX12_row_69 rfl hl (by decide) rfl (fun ls hl => ?_)
  refine lv_goto (tgt := 8) hx hb dX12_row_70 (by decide) ?_
  exact hc8 σ29 v28 h H locs hP hS ls (lv_sub hl [1, 0] rfl)
def m_X12_row_8_s (f_X12_item : SG → Option (Int32 × SG))   (c8 : SG → Int32 → Option (Int32 × SG)) (σ : SG) (l1 : Int32) : Option (Int32 × SG) :=
  bi (m_X12_good  σ ) (fun v4 σ5 => if v4 = 0 then (some (l1, σ5)) else (if (σ5.1 0 9) = 1 then (m_X12_row_59 f_X12_item  c8 σ5 l1) else (bi (m_X12_is  σ5 46) (fun v9 σ10 => if ¬ v9 = 0 then (m_X12_row_59 f_X12_item  c8 σ10 l1) else (bi (m_X12_is  σ10 114) (fun v13 σ14 => if ¬ v13 = 0 then (m_X12_row_59 f_X12_item  c8 σ14 l1) else (bi (m_X12_is  σ14 91) (fun v17 σ18 => if ¬ v17 = 0 then (m_X12_row_59 f_X12_item  c8 σ18 l1) else (bi (m_X12_is  σ18 40) (fun v21 σ22 => if v21 = 0 then (some (l1, σ22)) else (m_X12_row_59 f_X12_item  c8 σ22 l1)))))))))))
def m_X12_row_8 (f_X12_item : SG → Option (Int32 × SG))   : Nat → SG → Int32 → Option (Int32 × SG)
  | 0, _, _ => none
  | n + 1, σ, l1 => m_X12_row_8_s f_X12_item   (m_X12_row_8 f_X12_item   n) σ l1
set_option maxHeartbeats 4000000 in
set_option maxRecDepth 100000 in
theorem kb_X12_row_8 {p : Program} {l : Launch} {e : Env} {s : State} {m : MethodId} {args : Array Value} {below : List Frame} {meth : Method} {c : Code} (Z : ZT) (d : Nat) (f_X12_item : SG → Option (Int32 × SG)) (hf_X12_item : ∀ (σ : SG)  (res : Int32 × SG), f_X12_item σ  = some res → Met l yX12_item wsX12_item (rmq 17 d) (va_Pc [.ref (za Z 0)] (wx (EM Z) (zD Z) vwCl 24 (za Z) (tM Z) (tysM Z) σ)) (xQi (EM Z) (zD Z) vwCl 24 (za Z) (tM Z) (tysM Z) res) 0 0 (ws_A 24 (za Z)))   (C : cy p s m args meth c cX12_row (some .int) 2 RX12 wsX12_row (EM Z) (zD Z) vwCl 24 (za Z) (tysM Z)) {res : Int32 × SG}   : ∀ (n : Nat) (σ : SG) (l1 : Int32) , m_X12_row_8 f_X12_item   n σ l1 = some res → ∀ (H : Heap) (locs : List Loc), ws_P (zD Z) vwCl 24 (za Z) (tM Z) σ H → va_S (ws_A 24 (za Z)) s.heap H locs → ∀ (ls : Array Slot), lv_has ls 2 [(0, .ref (za Z 0)), (1, .int l1)] → W p l e (rmq 18 d) s m args below meth c H locs 0 0 (MQ below (xQi (EM Z) (zD Z) vwCl 24 (za Z) (tM Z) (tysM Z) res) args s 0 0 (ws_A 24 (za Z))) (F0 m 8 ls []) := by
  have C0 := C
  obtain ⟨hx, hb, hr, hlocks, hml, hown, hts, hE, hJ, hK⟩ := C0
  intro n
  induction n with
  | zero =>
    intro σ l1  h
    cases h
  | succ n ih =>
    intro σ l1  h H locs hP hS ls hl
    have hc8 : ∀ (σ : SG) (l1 : Int32) , m_X12_row_8 f_X12_item   n σ l1 = some res → ∀ (H : Heap) (locs : List Loc), ws_P (zD Z) vwCl 24 (za Z) (tM Z) σ H → va_S (ws_A 24 (za Z)) s.heap H locs → ∀ (ls : Array Slot), lv_has ls 2 [(0, .ref (za Z 0)), (1, .int l1)] → W p l e (rmq 18 d) s m args below meth c H locs 0 0 (MQ below (xQi (EM Z) (zD Z) vwCl 24 (za Z) (tM Z) (tysM Z) res) args s 0 0 (ws_A 24 (za Z))) (F0 m 8 ls []) := ih
    have h : m_X12_row_8_s f_X12_item   (m_X12_row_8 f_X12_item   n) σ l1 = some res := h
    unfold m_X12_row_8_s at h
    refine lv_aload_n hx hb dX12_row_8 rfl (lv_at hl 0 rfl) ?_
    obtain ⟨v4, σ5, hm6, h⟩ := bi_e h
    refine xr_calli (res := (v4, σ5)) (va_runV (As := []) (rest := []) ⟨hx, hb, hml, hown, hts⟩ (k_X12_good l Z   σ  hm6) (cwV 0 hts gX12_row_X12_good rfl rfl rfl (by decide +kernel) ⟨by first | (dsimp only [rmq, rmb]; omega) | omega, by first | (dsimp only [rmq, rmb]; omega) | omega⟩) ⟨wx_blind, wr_recv hK hP (k := 0) (by decide) ((tM_0 Z) _ _ _) rfl, fun U hU hW => ⟨rfl, wx_at hE hJ hP hK hS hU hW⟩⟩ rfl rfl hl.1 rfl (lv_room (Nat.le_of_ble_eq_true rfl)) dX12_row_9 ⟨Nat.le_of_ble_eq_true rfl, Nat.le_of_ble_eq_true rfl⟩) hS (fun H locs hP hS => ?_)
    have hP : ws_P (zD Z) vwCl 24 (za Z) (tM Z) σ5 H := hP
    refine lv_if_eq (tgt := 73) hx hb dX12_row_12 (by decide) (fun q7 => ?_) (fun q7 => ?_)
    · have h := if_p h q7
      refine lv_iload_n hx hb dX12_row_73 rfl (lv_at hl 1 rfl) ?_
      exact xr_iret hx hb hr hlocks hE hJ hK hP hS h dX12_row_74
    · have h := if_n h q7
      refine lv_aload_n hx hb dX12_row_15 rfl (lv_at hl 0 rfl) ?_
      refine wr_get (C := RX12) (T := TX12) (N := 41) hx hb hts (in_X12_row_X12) hown hK hP (k := 0) (by decide) ((tM_0 Z) _ _ _) rfl 9 (by decide) (hts (.fieldLink RX12 110 "TuneSearchModel" "token" "I") (by decide +kernel)) (fun _ h9 => h9) rfl dX12_row_16 ?_
      refine lv_iconst (v := 1) hx hb dX12_row_19 (by decide) ?_
      refine lv_icmp_eq (tgt := 59) hx hb dX12_row_20 (by decide) (fun q8 => ?_) (fun q8 => ?_)
      · have h := if_p h q8
        exact kb_X12_row_59 Z d f_X12_item hf_X12_item   C  hc8 σ5 l1 h H locs hP hS ls (lv_sub hl [0, 1] rfl)
      · have h := if_n h q8
        refine lv_aload_n hx hb dX12_row_23 rfl (lv_at hl 0 rfl) ?_
        refine lv_bipush (v := 46) hx hb dX12_row_24 (by decide) ?_
        obtain ⟨v9, σ10, hm11, h⟩ := bi_e h
        refine xr_calli (res := (v9, σ10)) (va_runV (As := [.int 46]) (rest := []) ⟨hx, hb, hml, hown, hts⟩ (k_X12_is l Z   σ5 46 hm11) (cwV 1 hts gX12_row_X12_is rfl rfl rfl (by decide +kernel) ⟨by first | (dsimp only [rmq, rmb]; omega) | omega, by first | (dsimp only [rmq, rmb]; omega) | omega⟩) ⟨wx_blind, wr_recv hK hP (k := 0) (by decide) ((tM_0 Z) _ _ _) rfl, fun U hU hW => ⟨rfl, wx_at hE hJ hP hK hS hU hW⟩⟩ rfl rfl hl.1 rfl (lv_room (Nat.le_of_ble_eq_true rfl)) dX12_row_26 ⟨Nat.le_of_ble_eq_true rfl, Nat.le_of_ble_eq_true rfl⟩) hS (fun H locs hP hS => ?_)
        have hP : ws_P (zD Z) vwCl 24 (za Z) (tM Z) σ10 H := hP
        refine lv_if_ne (tgt := 59) hx hb dX12_row_29 (by decide) (fun q12 => ?_) (fun q12 => ?_)
        · have h := if_p h q12
          exact kb_X12_row_59 Z d f_X12_item hf_X12_item   C  hc8 σ10 l1 h H locs hP hS ls (lv_sub hl [0, 1] rfl)
        · have h := if_n h (fun z => z q12)
          refine lv_aload_n hx hb dX12_row_32 rfl (lv_at hl 0 rfl) ?_
          refine lv_bipush (v := 114) hx hb dX12_row_33 (by decide) ?_
          obtain ⟨v13, σ14, hm15, h⟩ := bi_e h
          refine xr_calli (res := (v13, σ14)) (va_runV (As := [.int 114]) (rest := []) ⟨hx, hb, hml, hown, hts⟩ (k_X12_is l Z   σ10 114 hm15) (cwV 1 hts gX12_row_X12_is rfl rfl rfl (by decide +kernel) ⟨by first | (dsimp only [rmq, rmb]; omega) | omega, by first | (dsimp only [rmq, rmb]; omega) | omega⟩) ⟨wx_blind, wr_recv hK hP (k := 0) (by decide) ((tM_0 Z) _ _ _) rfl, fun U hU hW => ⟨rfl, wx_at hE hJ hP hK hS hU hW⟩⟩ rfl rfl hl.1 rfl (lv_room (Nat.le_of_ble_eq_true rfl)) dX12_row_35 ⟨Nat.le_of_ble_eq_true rfl, Nat.le_of_ble_eq_true rfl⟩) hS (fun H locs hP hS => ?_)
          have hP : ws_P (zD Z) vwCl 24 (za Z) (tM Z) σ14 H := hP
          refine lv_if_ne (tgt := 59) hx hb dX12_row_38 (by decide) (fun q16 => ?_) (fun q16 => ?_)
          · have h := if_p h q16
            exact kb_X12_row_59 Z d f_X12_item hf_X12_item   C  hc8 σ14 l1 h H locs hP hS ls (lv_sub hl [0, 1] rfl)
          · have h := if_n h (fun z => z q16)
            refine lv_aload_n hx hb dX12_row_41 rfl (lv_at hl 0 rfl) ?_
            refine lv_bipush (v := 91) hx hb dX12_row_42 (by decide) ?_
            obtain ⟨v17, σ18, hm19, h⟩ := bi_e h
            refine xr_calli (res := (v17, σ18)) (va_runV (As := [.int 91]) (rest := []) ⟨hx, hb, hml, hown, hts⟩ (k_X12_is l Z   σ14 91 hm19) (cwV 1 hts gX12_row_X12_is rfl rfl rfl (by decide +kernel) ⟨by first | (dsimp only [rmq, rmb]; omega) | omega, by first | (dsimp only [rmq, rmb]; omega) | omega⟩) ⟨wx_blind, wr_recv hK hP (k := 0) (by decide) ((tM_0 Z) _ _ _) rfl, fun U hU hW => ⟨rfl, wx_at hE hJ hP hK hS hU hW⟩⟩ rfl rfl hl.1 rfl (lv_room (Nat.le_of_ble_eq_true rfl)) dX12_row_44 ⟨Nat.le_of_ble_eq_true rfl, Nat.le_of_ble_eq_true rfl⟩) hS (fun H locs hP hS => ?_)
            have hP : ws_P (zD Z) vwCl 24 (za Z) (tM Z) σ18 H := hP
            refine lv_if_ne (tgt := 59) hx hb dX12_row_47 (by decide) (fun q20 => ?_) (fun q20 => ?_)
            · have h := if_p h q20
              exact kb_X12_row_59 Z d f_X12_item hf_X12_item   C  hc8 σ18 l1 h H locs hP hS ls (lv_sub hl [0, 1] rfl)
            · have h := if_n h (fun z => z q20)
              refine lv_aload_n hx hb dX12_row_50 rfl (lv_at hl 0 rfl) ?_
              refine lv_bipush (v := 40) hx hb dX12_row_51 (by decide) ?_
              obtain ⟨v21, σ22, hm23, h⟩ := bi_e h
              refine xr_calli (res := (v21, σ22)) (va_runV (As := [.int 40]) (rest := []) ⟨hx, hb, hml, hown, hts⟩ (k_X12_is l Z   σ18 40 hm23) (cwV 1 hts gX12_row_X12_is rfl rfl rfl (by decide +kernel) ⟨by first | (dsimp only [rmq, rmb]; omega) | omega, by first | (dsimp only [rmq, rmb]; omega) | omega⟩) ⟨wx_blind, wr_recv hK hP (k := 0) (by decide) ((tM_0 Z) _ _ _) rfl, fun U hU hW => ⟨rfl, wx_at hE hJ hP hK hS hU hW⟩⟩ rfl rfl hl.1 rfl (lv_room (Nat.le_of_ble_eq_true rfl)) dX12_row_53 ⟨Nat.le_of_ble_eq_true rfl, Nat.le_of_ble_eq_true rfl⟩) hS (fun H locs hP hS => ?_)
              have hP : ws_P (zD Z) vwCl 24 (za Z) (tM Z) σ22 H := hP
              refine lv_if_eq (tgt := 73) hx hb dX12_row_56 (by decide) (fun q24 => ?_) (fun q24 => ?_)
              · have h := if_p h q24
                refine lv_iload_n hx hb dX12_row_73 rfl (lv_at hl 1 rfl) ?_
                exact xr_iret hx hb hr hlocks hE hJ hK hP hS h dX12_row_74
              · have h := if_n h q24
                exact kb_X12_row_59 Z d f_X12_item hf_X12_item   C  hc8 σ22 l1 h H locs hP hS ls (lv_sub hl [0, 1] rfl)
def m_X12_row_0 (f_X12_item : SG → Option (Int32 × SG))   (σ : SG)  : Option (Int32 × SG) :=
  bi (m_X12_node  σ 0 0 0) (fun v1 σ2 => m_X12_row_8 f_X12_item   FV σ2 v1)
set_option maxHeartbeats 4000000 in
set_option maxRecDepth 100000 in
theorem kb_X12_row_0 {p : Program} {l : Launch} {e : Env} {s : State} {m : MethodId} {args : Array Value} {below : List Frame} {meth : Method} {c : Code} (Z : ZT) (d : Nat) (f_X12_item : SG → Option (Int32 × SG)) (hf_X12_item : ∀ (σ : SG)  (res : Int32 × SG), f_X12_item σ  = some res → Met l yX12_item wsX12_item (rmq 17 d) (va_Pc [.ref (za Z 0)] (wx (EM Z) (zD Z) vwCl 24 (za Z) (tM Z) (tysM Z) σ)) (xQi (EM Z) (zD Z) vwCl 24 (za Z) (tM Z) (tysM Z) res) 0 0 (ws_A 24 (za Z)))   (C : cy p s m args meth c cX12_row (some .int) 2 RX12 wsX12_row (EM Z) (zD Z) vwCl 24 (za Z) (tysM Z)) {res : Int32 × SG}   : ∀ (σ : SG)  , m_X12_row_0 f_X12_item   σ  = some res → ∀ (H : Heap) (locs : List Loc), ws_P (zD Z) vwCl 24 (za Z) (tM Z) σ H → va_S (ws_A 24 (za Z)) s.heap H locs → ∀ (ls : Array Slot), lv_has ls 2 [(0, .ref (za Z 0))] → W p l e (rmq 18 d) s m args below meth c H locs 0 0 (MQ below (xQi (EM Z) (zD Z) vwCl 24 (za Z) (tM Z) (tysM Z) res) args s 0 0 (ws_A 24 (za Z))) (F0 m 0 ls []) := by
  have C0 := C
  obtain ⟨hx, hb, hr, hlocks, hml, hown, hts, hE, hJ, hK⟩ := C0
  intro σ   h H locs hP hS ls hl
  unfold m_X12_row_0 at h
  refine lv_aload_n hx hb dX12_row_0 rfl (lv_at hl 0 rfl) ?_
  refine lv_iconst (v := 0) hx hb dX12_row_1 (by decide) ?_
  refine lv_iconst (v := 0) hx hb dX12_row_2 (by decide) ?_
  refine lv_iconst (v := 0) hx hb dX12_row_3 (by decide) ?_
  obtain ⟨v1, σ2, hm3, h⟩ := bi_e h
  refine xr_calli (res := (v1, σ2)) (va_runV (As := [.int 0, .int 0, .int 0]) (rest := []) ⟨hx, hb, hml, hown, hts⟩ (k_X12_node l Z   σ 0 0 0 hm3) (cwV 3 hts gX12_row_X12_node rfl rfl rfl (by decide +kernel) ⟨by first | (dsimp only [rmq, rmb]; omega) | omega, by first | (dsimp only [rmq, rmb]; omega) | omega⟩) ⟨wx_blind, wr_recv hK hP (k := 0) (by decide) ((tM_0 Z) _ _ _) rfl, fun U hU hW => ⟨rfl, wx_at hE hJ hP hK hS hU hW⟩⟩ rfl rfl hl.1 rfl (lv_room (Nat.le_of_ble_eq_true rfl)) dX12_row_4 ⟨Nat.le_of_ble_eq_true rfl, Nat.le_of_ble_eq_true rfl⟩) hS (fun H locs hP hS => ?_)
  have hP : ws_P (zD Z) vwCl 24 (za Z) (tM Z) σ2 H := hP
  refine lv_istore_n (lv' := [(1, .int v1), (0, .ref (za Z 0))]) hx hb dX12_row_7 rfl hl (by decide) rfl (fun ls hl => ?_)
  exact kb_X12_row_8 Z d f_X12_item hf_X12_item   C   FV σ2 v1 h H locs hP hS ls (lv_sub hl [1, 0] rfl)
def m_X12_row (f_X12_item : SG → Option (Int32 × SG))  (σ : SG)  : Option (Int32 × SG) := m_X12_row_0 f_X12_item  σ 
set_option maxHeartbeats 4000000 in
set_option maxRecDepth 100000 in
theorem k_X12_row (l : Launch) (Z : ZT) (d : Nat) (f_X12_item : SG → Option (Int32 × SG)) (hf_X12_item : ∀ (σ : SG)  (res : Int32 × SG), f_X12_item σ  = some res → Met l yX12_item wsX12_item (rmq 17 d) (va_Pc [.ref (za Z 0)] (wx (EM Z) (zD Z) vwCl 24 (za Z) (tM Z) (tysM Z) σ)) (xQi (EM Z) (zD Z) vwCl 24 (za Z) (tM Z) (tysM Z) res) 0 0 (ws_A 24 (za Z)))   (σ : SG)  {res : Int32 × SG} (h : m_X12_row f_X12_item  σ  = some res) : Met l yX12_row wsX12_row (rmq 18 d) (va_Pc [.ref (za Z 0)] (wx (EM Z) (zD Z) vwCl 24 (za Z) (tM Z) (tysM Z) σ)) (xQi (EM Z) (zD Z) vwCl 24 (za Z) (tM Z) (tysM Z) res) 0 0 (ws_A 24 (za Z)) := by
  refine Met.ofW (cc := cX12_row) (maxL := 2) (ret := (some .int)) (by decide) rfl ?_
  intro p e s m args below meth c s₁ B hml hv
  obtain ⟨rfl, hE, hJ, hP, hK⟩ := hv
  have hl := lv_entry ([.ref (za Z 0)]) (n := 2) (Nat.le_of_ble_eq_true rfl)
  rw [lg_entry_eq]
  generalize (lg_sl ([.ref (za Z 0)]) ++ List.replicate (2 - (lg_sl ([.ref (za Z 0)])).length) Slot.unset).toArray = ls at hl ⊢
  exact kb_X12_row_0 Z d f_X12_item hf_X12_item   ⟨B.exec, B.bytes, B.returns, B.notSynchronized, hml, findClass_of_methodNamed B.named, atoms_spec (ws := wsX12_row) B.pre, hE, hJ, hK⟩ σ  h s.heap [] hP va_S.rf ls hl
/-! TuneSearchModel.alternatives()I -/
def m_X12_alternatives_5_s (f_X12_row : SG → Option (Int32 × SG))   (c5 : SG → Int32 → Option (Int32 × SG)) (σ : SG) (l1 : Int32) : Option (Int32 × SG) :=
  bi (m_X12_is  σ 124) (fun v4 σ5 => if v4 = 0 then (some (l1, σ5)) else (bi (m_X12_next  σ5 ) (fun v8 σ9 => bi (f_X12_row σ9 ) (fun v11 σ12 => bi (m_X12_node  σ12 5 l1 v11) (fun v14 σ15 => c5 σ15 v14)))))
def m_X12_alternatives_5 (f_X12_row : SG → Option (Int32 × SG))   : Nat → SG → Int32 → Option (Int32 × SG)
  | 0, _, _ => none
  | n + 1, σ, l1 => m_X12_alternatives_5_s f_X12_row   (m_X12_alternatives_5 f_X12_row   n) σ l1
set_option maxHeartbeats 4000000 in
set_option maxRecDepth 100000 in
theorem kb_X12_alternatives_5 {p : Program} {l : Launch} {e : Env} {s : State} {m : MethodId} {args : Array Value} {below : List Frame} {meth : Method} {c : Code} (Z : ZT) (d : Nat) (f_X12_row : SG → Option (Int32 × SG)) (hf_X12_row : ∀ (σ : SG)  (res : Int32 × SG), f_X12_row σ  = some res → Met l yX12_row wsX12_row (rmq 18 d) (va_Pc [.ref (za Z 0)] (wx (EM Z) (zD Z) vwCl 24 (za Z) (tM Z) (tysM Z) σ)) (xQi (EM Z) (zD Z) vwCl 24 (za Z) (tM Z) (tysM Z) res) 0 0 (ws_A 24 (za Z)))   (C : cy p s m args meth c cX12_alternatives (some .int) 2 RX12 wsX12_alternatives (EM Z) (zD Z) vwCl 24 (za Z) (tysM Z)) {res : Int32 × SG}   : ∀ (n : Nat) (σ : SG) (l1 : Int32) , m_X12_alternatives_5 f_X12_row   n σ l1 = some res → ∀ (H : Heap) (locs : List Loc), ws_P (zD Z) vwCl 24 (za Z) (tM Z) σ H → va_S (ws_A 24 (za Z)) s.heap H locs → ∀ (ls : Array Slot), lv_has ls 2 [(0, .ref (za Z 0)), (1, .int l1)] → W p l e (rmq 19 d) s m args below meth c H locs 0 0 (MQ below (xQi (EM Z) (zD Z) vwCl 24 (za Z) (tM Z) (tysM Z) res) args s 0 0 (ws_A 24 (za Z))) (F0 m 5 ls []) := by
  have C0 := C
  obtain ⟨hx, hb, hr, hlocks, hml, hown, hts, hE, hJ, hK⟩ := C0
  intro n
  induction n with
  | zero =>
    intro σ l1  h
    cases h
  | succ n ih =>
    intro σ l1  h H locs hP hS ls hl
    have hc5 : ∀ (σ : SG) (l1 : Int32) , m_X12_alternatives_5 f_X12_row   n σ l1 = some res → ∀ (H : Heap) (locs : List Loc), ws_P (zD Z) vwCl 24 (za Z) (tM Z) σ H → va_S (ws_A 24 (za Z)) s.heap H locs → ∀ (ls : Array Slot), lv_has ls 2 [(0, .ref (za Z 0)), (1, .int l1)] → W p l e (rmq 19 d) s m args below meth c H locs 0 0 (MQ below (xQi (EM Z) (zD Z) vwCl 24 (za Z) (tM Z) (tysM Z) res) args s 0 0 (ws_A 24 (za Z))) (F0 m 5 ls []) := ih
    have h : m_X12_alternatives_5_s f_X12_row   (m_X12_alternatives_5 f_X12_row   n) σ l1 = some res := h
    unfold m_X12_alternatives_5_s at h
    refine lv_aload_n hx hb dX12_alternatives_5 rfl (lv_at hl 0 rfl) ?_
    refine lv_bipush (v := 124) hx hb dX12_alternatives_6 (by decide) ?_
    obtain ⟨v4, σ5, hm6, h⟩ := bi_e h
    refine xr_calli (res := (v4, σ5)) (va_runV (As := [.int 124]) (rest := []) ⟨hx, hb, hml, hown, hts⟩ (k_X12_is l Z   σ 124 hm6) (cwV 1 hts gX12_alternatives_X12_is rfl rfl rfl (by decide +kernel) ⟨by first | (dsimp only [rmq, rmb]; omega) | omega, by first | (dsimp only [rmq, rmb]; omega) | omega⟩) ⟨wx_blind, wr_recv hK hP (k := 0) (by decide) ((tM_0 Z) _ _ _) rfl, fun U hU hW => ⟨rfl, wx_at hE hJ hP hK hS hU hW⟩⟩ rfl rfl hl.1 rfl (lv_room (Nat.le_of_ble_eq_true rfl)) dX12_alternatives_8 ⟨Nat.le_of_ble_eq_true rfl, Nat.le_of_ble_eq_true rfl⟩) hS (fun H locs hP hS => ?_)
    have hP : ws_P (zD Z) vwCl 24 (za Z) (tM Z) σ5 H := hP
    refine lv_if_eq (tgt := 32) hx hb dX12_alternatives_11 (by decide) (fun q7 => ?_) (fun q7 => ?_)
    · have h := if_p h q7
      refine lv_iload_n hx hb dX12_alternatives_32 rfl (lv_at hl 1 rfl) ?_
      exact xr_iret hx hb hr hlocks hE hJ hK hP hS h dX12_alternatives_33
    · have h := if_n h q7
      refine lv_aload_n hx hb dX12_alternatives_14 rfl (lv_at hl 0 rfl) ?_
      obtain ⟨v8, σ9, hm10, h⟩ := bi_e h
      refine xr_callv (res := (v8, σ9)) (va_runV (As := []) (rest := []) ⟨hx, hb, hml, hown, hts⟩ (k_X12_next l Z   σ5  hm10) (cwV 0 hts gX12_alternatives_X12_next rfl rfl rfl (by decide +kernel) ⟨by first | (dsimp only [rmq, rmb]; omega) | omega, by first | (dsimp only [rmq, rmb]; omega) | omega⟩) ⟨wx_blind, wr_recv hK hP (k := 0) (by decide) ((tM_0 Z) _ _ _) rfl, fun U hU hW => ⟨rfl, wx_at hE hJ hP hK hS hU hW⟩⟩ rfl rfl hl.1 rfl (lv_room (Nat.le_of_ble_eq_true rfl)) dX12_alternatives_15 ⟨Nat.le_of_ble_eq_true rfl, Nat.le_of_ble_eq_true rfl⟩) hS (fun H locs hP hS => ?_)
      have hP : ws_P (zD Z) vwCl 24 (za Z) (tM Z) σ9 H := hP
      refine lv_aload_n hx hb dX12_alternatives_18 rfl (lv_at hl 0 rfl) ?_
      refine lv_iconst (v := 5) hx hb dX12_alternatives_19 (by decide) ?_
      refine lv_iload_n hx hb dX12_alternatives_20 rfl (lv_at hl 1 rfl) ?_
      refine lv_aload_n hx hb dX12_alternatives_21 rfl (lv_at hl 0 rfl) ?_
      obtain ⟨v11, σ12, hm13, h⟩ := bi_e h
      refine xr_calli (res := (v11, σ12)) (va_runV (As := []) (rest := [.int l1, .int 5, .ref (za Z 0)]) ⟨hx, hb, hml, hown, hts⟩ (hf_X12_row σ9  _ hm13) (cwV 0 hts gX12_alternatives_X12_row rfl rfl rfl (by decide +kernel) ⟨by first | (dsimp only [rmq, rmb]; omega) | omega, by first | (dsimp only [rmq, rmb]; omega) | omega⟩) ⟨wx_blind, wr_recv hK hP (k := 0) (by decide) ((tM_0 Z) _ _ _) rfl, fun U hU hW => ⟨rfl, wx_at hE hJ hP hK hS hU hW⟩⟩ rfl rfl hl.1 rfl (lv_room (Nat.le_of_ble_eq_true rfl)) dX12_alternatives_22 ⟨Nat.le_of_ble_eq_true rfl, Nat.le_of_ble_eq_true rfl⟩) hS (fun H locs hP hS => ?_)
      have hP : ws_P (zD Z) vwCl 24 (za Z) (tM Z) σ12 H := hP
      obtain ⟨v14, σ15, hm16, h⟩ := bi_e h
      refine xr_calli (res := (v14, σ15)) (va_runV (As := [.int 5, .int l1, .int v11]) (rest := []) ⟨hx, hb, hml, hown, hts⟩ (k_X12_node l Z   σ12 5 l1 v11 hm16) (cwV 3 hts gX12_alternatives_X12_node rfl rfl rfl (by decide +kernel) ⟨by first | (dsimp only [rmq, rmb]; omega) | omega, by first | (dsimp only [rmq, rmb]; omega) | omega⟩) ⟨wx_blind, wr_recv hK hP (k := 0) (by decide) ((tM_0 Z) _ _ _) rfl, fun U hU hW => ⟨rfl, wx_at hE hJ hP hK hS hU hW⟩⟩ rfl rfl hl.1 rfl (lv_room (Nat.le_of_ble_eq_true rfl)) dX12_alternatives_25 ⟨Nat.le_of_ble_eq_true rfl, Nat.le_of_ble_eq_true rfl⟩) hS (fun H locs hP hS => ?_)
      have hP : ws_P (zD Z) vwCl 24 (za Z) (tM Z) σ15 H := hP
      refine lv_istore_n (lv' := [(1, .int v14), (0, .ref (za Z 0))]) hx hb dX12_alternatives_28 rfl hl (by decide) rfl (fun ls hl => ?_)
      refine lv_goto (tgt := 5) hx hb dX12_alternatives_29 (by decide) ?_
      exact hc5 σ15 v14 h H locs hP hS ls (lv_sub hl [1, 0] rfl)
def m_X12_alternatives_0 (f_X12_row : SG → Option (Int32 × SG))   (σ : SG)  : Option (Int32 × SG) :=
  bi (f_X12_row σ ) (fun v1 σ2 => m_X12_alternatives_5 f_X12_row   FV σ2 v1)
set_option maxHeartbeats 4000000 in
set_option maxRecDepth 100000 in
theorem kb_X12_alternatives_0 {p : Program} {l : Launch} {e : Env} {s : State} {m : MethodId} {args : Array Value} {below : List Frame} {meth : Method} {c : Code} (Z : ZT) (d : Nat) (f_X12_row : SG → Option (Int32 × SG)) (hf_X12_row : ∀ (σ : SG)  (res : Int32 × SG), f_X12_row σ  = some res → Met l yX12_row wsX12_row (rmq 18 d) (va_Pc [.ref (za Z 0)] (wx (EM Z) (zD Z) vwCl 24 (za Z) (tM Z) (tysM Z) σ)) (xQi (EM Z) (zD Z) vwCl 24 (za Z) (tM Z) (tysM Z) res) 0 0 (ws_A 24 (za Z)))   (C : cy p s m args meth c cX12_alternatives (some .int) 2 RX12 wsX12_alternatives (EM Z) (zD Z) vwCl 24 (za Z) (tysM Z)) {res : Int32 × SG}   : ∀ (σ : SG)  , m_X12_alternatives_0 f_X12_row   σ  = some res → ∀ (H : Heap) (locs : List Loc), ws_P (zD Z) vwCl 24 (za Z) (tM Z) σ H → va_S (ws_A 24 (za Z)) s.heap H locs → ∀ (ls : Array Slot), lv_has ls 2 [(0, .ref (za Z 0))] → W p l e (rmq 19 d) s m args below meth c H locs 0 0 (MQ below (xQi (EM Z) (zD Z) vwCl 24 (za Z) (tM Z) (tysM Z) res) args s 0 0 (ws_A 24 (za Z))) (F0 m 0 ls []) := by
  have C0 := C
  obtain ⟨hx, hb, hr, hlocks, hml, hown, hts, hE, hJ, hK⟩ := C0
  intro σ   h H locs hP hS ls hl
  unfold m_X12_alternatives_0 at h
  refine lv_aload_n hx hb dX12_alternatives_0 rfl (lv_at hl 0 rfl) ?_
  obtain ⟨v1, σ2, hm3, h⟩ := bi_e h
  refine xr_calli (res := (v1, σ2)) (va_runV (As := []) (rest := []) ⟨hx, hb, hml, hown, hts⟩ (hf_X12_row σ  _ hm3) (cwV 0 hts gX12_alternatives_X12_row rfl rfl rfl (by decide +kernel) ⟨by first | (dsimp only [rmq, rmb]; omega) | omega, by first | (dsimp only [rmq, rmb]; omega) | omega⟩) ⟨wx_blind, wr_recv hK hP (k := 0) (by decide) ((tM_0 Z) _ _ _) rfl, fun U hU hW => ⟨rfl, wx_at hE hJ hP hK hS hU hW⟩⟩ rfl rfl hl.1 rfl (lv_room (Nat.le_of_ble_eq_true rfl)) dX12_alternatives_1 ⟨Nat.le_of_ble_eq_true rfl, Nat.le_of_ble_eq_true rfl⟩) hS (fun H locs hP hS => ?_)
  have hP : ws_P (zD Z) vwCl 24 (za Z) (tM Z) σ2 H := hP
  refine lv_istore_n (lv' := [(1, .int v1), (0, .ref (za Z 0))]) hx hb dX12_alternatives_4 rfl hl (by decide) rfl (fun ls hl => ?_)
  exact kb_X12_alternatives_5 Z d f_X12_row hf_X12_row   C   FV σ2 v1 h H locs hP hS ls (lv_sub hl [1, 0] rfl)
def m_X12_alternatives (f_X12_row : SG → Option (Int32 × SG))  (σ : SG)  : Option (Int32 × SG) := m_X12_alternatives_0 f_X12_row  σ 
set_option maxHeartbeats 4000000 in
set_option maxRecDepth 100000 in
theorem k_X12_alternatives (l : Launch) (Z : ZT) (d : Nat) (f_X12_row : SG → Option (Int32 × SG)) (hf_X12_row : ∀ (σ : SG)  (res : Int32 × SG), f_X12_row σ  = some res → Met l yX12_row wsX12_row (rmq 18 d) (va_Pc [.ref (za Z 0)] (wx (EM Z) (zD Z) vwCl 24 (za Z) (tM Z) (tysM Z) σ)) (xQi (EM Z) (zD Z) vwCl 24 (za Z) (tM Z) (tysM Z) res) 0 0 (ws_A 24 (za Z)))   (σ : SG)  {res : Int32 × SG} (h : m_X12_alternatives f_X12_row  σ  = some res) : Met l yX12_alternatives wsX12_alternatives (rmq 19 d) (va_Pc [.ref (za Z 0)] (wx (EM Z) (zD Z) vwCl 24 (za Z) (tM Z) (tysM Z) σ)) (xQi (EM Z) (zD Z) vwCl 24 (za Z) (tM Z) (tysM Z) res) 0 0 (ws_A 24 (za Z)) := by
  refine Met.ofW (cc := cX12_alternatives) (maxL := 2) (ret := (some .int)) (by decide) rfl ?_
  intro p e s m args below meth c s₁ B hml hv
  obtain ⟨rfl, hE, hJ, hP, hK⟩ := hv
  have hl := lv_entry ([.ref (za Z 0)]) (n := 2) (Nat.le_of_ble_eq_true rfl)
  rw [lg_entry_eq]
  generalize (lg_sl ([.ref (za Z 0)]) ++ List.replicate (2 - (lg_sl ([.ref (za Z 0)])).length) Slot.unset).toArray = ls at hl ⊢
  exact kb_X12_alternatives_0 Z d f_X12_row hf_X12_row   ⟨B.exec, B.bytes, B.returns, B.notSynchronized, hml, findClass_of_methodNamed B.named, atoms_spec (ws := wsX12_alternatives) B.pre, hE, hJ, hK⟩ σ  h s.heap [] hP va_S.rf ls hl
/-- the parser, d brackets deep at most -/
def t_alt : Nat → SG → Option (Int32 × SG)
  | 0 => fun _ => none
  | d + 1 => m_X12_alternatives (m_X12_row (m_X12_item (m_X12_atom (t_alt d))))
theorem k_alt (l : Launch) (Z : ZT) : ∀ (d : Nat), ∀ (σ : SG)  (res : Int32 × SG), t_alt d σ  = some res → Met l yX12_alternatives wsX12_alternatives (rmq 19 d) (va_Pc [.ref (za Z 0)] (wx (EM Z) (zD Z) vwCl 24 (za Z) (tM Z) (tysM Z) σ)) (xQi (EM Z) (zD Z) vwCl 24 (za Z) (tM Z) (tysM Z) res) 0 0 (ws_A 24 (za Z)) := by
  intro d
  induction d with
  | zero =>
    intro σ res h
    cases h
  | succ d ih =>
    intro σ res h
    exact k_X12_alternatives l Z (d + 1) _ (fun σ res h => k_X12_row l Z (d + 1) _ (fun σ res h => k_X12_item l Z (d + 1) _ (fun σ res h => k_X12_atom l Z d _ ih σ h) σ h) σ h) σ h
/-! TuneSearchModel.word()I -/
abbrev rm_X12_word : Room := { frames := 220, cells := 0, slots := 0, locals := 6591 }
theorem in_X12_word_X12 : ∀ w ∈ wsX120, w ∈ wsX12_word := by decide +kernel
def m_X12_word_57    (σ : SG) (l1 : Int32) : Option (Int32 × SG) :=
  lS (sI σ 0 7 0) (fun σ27 => lS (sI σ27 0 14 (σ27.1 0 12)) (fun σ29 => bi (m_X12_good  σ29 ) (fun v31 σ32 => if ¬ v31 = 0 then (gB (cpB 0 500 (σ32.1 0 18) 1000 1000) (lS (sA σ32 6 (va_cpy (σ32.1 6) (σ32.1 6) (0 : Int32).toNatClampNeg (500 : Int32).toNatClampNeg (σ32.1 0 18).toNatClampNeg)) (fun σ36 => gB (cpB 0 500 (σ36.1 0 18) 1000 1000) (lS (sA σ36 7 (va_cpy (σ36.1 7) (σ36.1 7) (0 : Int32).toNatClampNeg (500 : Int32).toNatClampNeg (σ36.1 0 18).toNatClampNeg)) (fun σ39 => gB (cpB 0 500 (σ39.1 0 18) 1000 1000) (lS (sA σ39 8 (va_cpy (σ39.1 8) (σ39.1 8) (0 : Int32).toNatClampNeg (500 : Int32).toNatClampNeg (σ39.1 0 18).toNatClampNeg)) (fun σ42 => lS (sI σ42 0 21 l1) (fun σ44 => some (σ44.1 0 19, σ44))))))))) else (some ((-10) - (σ32.1 0 13), σ32)))))
set_option maxHeartbeats 4000000 in
set_option maxRecDepth 100000 in
theorem kb_X12_word_57 {p : Program} {l : Launch} {e : Env} {s : State} {m : MethodId} {args : Array Value} {below : List Frame} {meth : Method} {c : Code} (Z : ZT)    (C : cy p s m args meth c cX12_word (some .int) 2 RX12 wsX12_word (EM Z) (zD Z) vwCl 24 (za Z) (tysM Z)) {res : Int32 × SG}   : ∀ (σ : SG) (l1 : Int32) , m_X12_word_57    σ l1 = some res → ∀ (H : Heap) (locs : List Loc), ws_P (zD Z) vwCl 24 (za Z) (tM Z) σ H → va_S (ws_A 24 (za Z)) s.heap H locs → ∀ (ls : Array Slot), lv_has ls 2 [(0, .ref (za Z 0)), (1, .int l1)] → W p l e rm_X12_word s m args below meth c H locs 0 0 (MQ below (xQi (EM Z) (zD Z) vwCl 24 (za Z) (tM Z) (tysM Z) res) args s 0 0 (ws_A 24 (za Z))) (F0 m 57 ls []) := by
  have C0 := C
  obtain ⟨hx, hb, hr, hlocks, hml, hown, hts, hE, hJ, hK⟩ := C0
  intro σ l1  h H locs hP hS ls hl
  unfold m_X12_word_57 at h
  refine lv_aload_n hx hb dX12_word_57 rfl (lv_at hl 0 rfl) ?_
  refine lv_iconst (v := 0) hx hb dX12_word_58 (by decide) ?_
  refine wr_put (C := RX12) (T := TX12) (N := 41) (σ' := sI σ 0 7 0) (ty := .int) hx hb hts (in_X12_word_X12) tyX12 tyX12_ok nmX12 hown hK hP hJ hS (k := 0) (by decide) ((tM_0 Z) _ _ _) rfl 7 (by decide) (hts (.fieldLink RX12 101 "TuneSearchModel" "taped" "I") (by decide +kernel)) (fun _ h9 => h9) rfl (by decide +kernel) rfl rfl (Nat.le_of_ble_eq_true rfl) (ws_pI (tM_0 Z) rfl) dX12_word_59 (fun H locs hP hS => ?_)
  obtain ⟨σ27, e28, h⟩ := lS_e h
  rw [← e28] at hP
  refine lv_aload_n hx hb dX12_word_62 rfl (lv_at hl 0 rfl) ?_
  refine lv_aload_n hx hb dX12_word_63 rfl (lv_at hl 0 rfl) ?_
  refine wr_get (C := RX12) (T := TX12) (N := 41) hx hb hts (in_X12_word_X12) hown hK hP (k := 0) (by decide) ((tM_0 Z) _ _ _) rfl 12 (by decide) (hts (.fieldLink RX12 127 "TuneSearchModel" "faultNumber" "I") (by decide +kernel)) (fun _ h9 => h9) rfl dX12_word_64 ?_
  refine wr_put (C := RX12) (T := TX12) (N := 41) (σ' := sI σ27 0 14 (σ27.1 0 12)) (ty := .int) hx hb hts (in_X12_word_X12) tyX12 tyX12_ok nmX12 hown hK hP hJ hS (k := 0) (by decide) ((tM_0 Z) _ _ _) rfl 14 (by decide) (hts (.fieldLink RX12 182 "TuneSearchModel" "lastFault" "I") (by decide +kernel)) (fun _ h9 => h9) rfl (by decide +kernel) rfl rfl (Nat.le_of_ble_eq_true rfl) (ws_pI (tM_0 Z) rfl) dX12_word_67 (fun H locs hP hS => ?_)
  obtain ⟨σ29, e30, h⟩ := lS_e h
  rw [← e30] at hP
  refine lv_aload_n hx hb dX12_word_70 rfl (lv_at hl 0 rfl) ?_
  obtain ⟨v31, σ32, hm33, h⟩ := bi_e h
  refine xr_calli (res := (v31, σ32)) (va_runV (As := []) (rest := []) ⟨hx, hb, hml, hown, hts⟩ (k_X12_good l Z   σ29  hm33) (cwV 0 hts gX12_word_X12_good rfl rfl rfl (by decide +kernel) ⟨Nat.le_of_ble_eq_true rfl, Nat.le_of_ble_eq_true rfl⟩) ⟨wx_blind, wr_recv hK hP (k := 0) (by decide) ((tM_0 Z) _ _ _) rfl, fun U hU hW => ⟨rfl, wx_at hE hJ hP hK hS hU hW⟩⟩ rfl rfl hl.1 rfl (lv_room (Nat.le_of_ble_eq_true rfl)) dX12_word_71 ⟨Nat.le_of_ble_eq_true rfl, Nat.le_of_ble_eq_true rfl⟩) hS (fun H locs hP hS => ?_)
  have hP : ws_P (zD Z) vwCl 24 (za Z) (tM Z) σ32 H := hP
  refine lv_if_ne (tgt := 85) hx hb dX12_word_74 (by decide) (fun q34 => ?_) (fun q34 => ?_)
  · have h := if_p h q34
    refine lv_aload_n hx hb dX12_word_85 rfl (lv_at hl 0 rfl) ?_
    refine wr_get (C := RX12) (T := TX12) (N := 41) hx hb hts (in_X12_word_X12) hown hK hP (k := 0) (by decide) ((tM_0 Z) _ _ _) rfl 15 (by decide) (hts (.fieldLink RX12 28 "TuneSearchModel" "kind" "[I") (by decide +kernel)) (fun _ h9 => h9) rfl dX12_word_86 ?_
    refine lv_iconst (v := 0) hx hb dX12_word_89 (by decide) ?_
    refine lv_aload_n hx hb dX12_word_90 rfl (lv_at hl 0 rfl) ?_
    refine wr_get (C := RX12) (T := TX12) (N := 41) hx hb hts (in_X12_word_X12) hown hK hP (k := 0) (by decide) ((tM_0 Z) _ _ _) rfl 15 (by decide) (hts (.fieldLink RX12 28 "TuneSearchModel" "kind" "[I") (by decide +kernel)) (fun _ h9 => h9) rfl dX12_word_91 ?_
    refine lv_sipush (v := 500) hx hb dX12_word_94 (by decide) ?_
    refine lv_aload_n hx hb dX12_word_97 rfl (lv_at hl 0 rfl) ?_
    refine wr_get (C := RX12) (T := TX12) (N := 41) hx hb hts (in_X12_word_X12) hown hK hP (k := 0) (by decide) ((tM_0 Z) _ _ _) rfl 18 (by decide) (hts (.fieldLink RX12 150 "TuneSearchModel" "nodes" "I") (by decide +kernel)) (fun _ h9 => h9) rfl dX12_word_98 ?_
    obtain ⟨b35, h⟩ := gB_e h
    refine wr_copyi hx hb (by rw [hml]; exact hl.1.symm) hown (hts (.methodLink RX12 185 arraycopyName) (by decide +kernel)) (hts (.native arraycopyName) (by decide +kernel)) (hts (.static arraycopyName) (by decide +kernel)) (hts (.initialized "java/lang/System") (by decide +kernel)) hK hP hJ hS (k0 := 6) (k1 := 6) (by decide) (by decide) 0 ((tM_6 Z) _ _ _) (tM_6 Z) rfl b35 (Nat.le_of_ble_eq_true rfl) (Nat.le_of_ble_eq_true rfl) dX12_word_101 (fun H locs hP hS => ?_)
    obtain ⟨σ36, e37, h⟩ := lS_e h
    rw [← e37] at hP
    refine lv_aload_n hx hb dX12_word_104 rfl (lv_at hl 0 rfl) ?_
    refine wr_get (C := RX12) (T := TX12) (N := 41) hx hb hts (in_X12_word_X12) hown hK hP (k := 0) (by decide) ((tM_0 Z) _ _ _) rfl 16 (by decide) (hts (.fieldLink RX12 31 "TuneSearchModel" "a" "[I") (by decide +kernel)) (fun _ h9 => h9) rfl dX12_word_105 ?_
    refine lv_iconst (v := 0) hx hb dX12_word_108 (by decide) ?_
    refine lv_aload_n hx hb dX12_word_109 rfl (lv_at hl 0 rfl) ?_
    refine wr_get (C := RX12) (T := TX12) (N := 41) hx hb hts (in_X12_word_X12) hown hK hP (k := 0) (by decide) ((tM_0 Z) _ _ _) rfl 16 (by decide) (hts (.fieldLink RX12 31 "TuneSearchModel" "a" "[I") (by decide +kernel)) (fun _ h9 => h9) rfl dX12_word_110 ?_
    refine lv_sipush (v := 500) hx hb dX12_word_113 (by decide) ?_
    refine lv_aload_n hx hb dX12_word_116 rfl (lv_at hl 0 rfl) ?_
    refine wr_get (C := RX12) (T := TX12) (N := 41) hx hb hts (in_X12_word_X12) hown hK hP (k := 0) (by decide) ((tM_0 Z) _ _ _) rfl 18 (by decide) (hts (.fieldLink RX12 150 "TuneSearchModel" "nodes" "I") (by decide +kernel)) (fun _ h9 => h9) rfl dX12_word_117 ?_
    obtain ⟨b38, h⟩ := gB_e h
    refine wr_copyi hx hb (by rw [hml]; exact hl.1.symm) hown (hts (.methodLink RX12 185 arraycopyName) (by decide +kernel)) (hts (.native arraycopyName) (by decide +kernel)) (hts (.static arraycopyName) (by decide +kernel)) (hts (.initialized "java/lang/System") (by decide +kernel)) hK hP hJ hS (k0 := 7) (k1 := 7) (by decide) (by decide) 0 ((tM_7 Z) _ _ _) (tM_7 Z) rfl b38 (Nat.le_of_ble_eq_true rfl) (Nat.le_of_ble_eq_true rfl) dX12_word_120 (fun H locs hP hS => ?_)
    obtain ⟨σ39, e40, h⟩ := lS_e h
    rw [← e40] at hP
    refine lv_aload_n hx hb dX12_word_123 rfl (lv_at hl 0 rfl) ?_
    refine wr_get (C := RX12) (T := TX12) (N := 41) hx hb hts (in_X12_word_X12) hown hK hP (k := 0) (by decide) ((tM_0 Z) _ _ _) rfl 17 (by decide) (hts (.fieldLink RX12 34 "TuneSearchModel" "b" "[I") (by decide +kernel)) (fun _ h9 => h9) rfl dX12_word_124 ?_
    refine lv_iconst (v := 0) hx hb dX12_word_127 (by decide) ?_
    refine lv_aload_n hx hb dX12_word_128 rfl (lv_at hl 0 rfl) ?_
    refine wr_get (C := RX12) (T := TX12) (N := 41) hx hb hts (in_X12_word_X12) hown hK hP (k := 0) (by decide) ((tM_0 Z) _ _ _) rfl 17 (by decide) (hts (.fieldLink RX12 34 "TuneSearchModel" "b" "[I") (by decide +kernel)) (fun _ h9 => h9) rfl dX12_word_129 ?_
    refine lv_sipush (v := 500) hx hb dX12_word_132 (by decide) ?_
    refine lv_aload_n hx hb dX12_word_135 rfl (lv_at hl 0 rfl) ?_
    refine wr_get (C := RX12) (T := TX12) (N := 41) hx hb hts (in_X12_word_X12) hown hK hP (k := 0) (by decide) ((tM_0 Z) _ _ _) rfl 18 (by decide) (hts (.fieldLink RX12 150 "TuneSearchModel" "nodes" "I") (by decide +kernel)) (fun _ h9 => h9) rfl dX12_word_136 ?_
    obtain ⟨b41, h⟩ := gB_e h
    refine wr_copyi hx hb (by rw [hml]; exact hl.1.symm) hown (hts (.methodLink RX12 185 arraycopyName) (by decide +kernel)) (hts (.native arraycopyName) (by decide +kernel)) (hts (.static arraycopyName) (by decide +kernel)) (hts (.initialized "java/lang/System") (by decide +kernel)) hK hP hJ hS (k0 := 8) (k1 := 8) (by decide) (by decide) 0 ((tM_8 Z) _ _ _) (tM_8 Z) rfl b41 (Nat.le_of_ble_eq_true rfl) (Nat.le_of_ble_eq_true rfl) dX12_word_139 (fun H locs hP hS => ?_)
    obtain ⟨σ42, e43, h⟩ := lS_e h
    rw [← e43] at hP
    refine lv_aload_n hx hb dX12_word_142 rfl (lv_at hl 0 rfl) ?_
    refine lv_iload_n hx hb dX12_word_143 rfl (lv_at hl 1 rfl) ?_
    refine wr_put (C := RX12) (T := TX12) (N := 41) (σ' := sI σ42 0 21 l1) (ty := .int) hx hb hts (in_X12_word_X12) tyX12 tyX12_ok nmX12 hown hK hP hJ hS (k := 0) (by decide) ((tM_0 Z) _ _ _) rfl 21 (by decide) (hts (.fieldLink RX12 37 "TuneSearchModel" "root" "I") (by decide +kernel)) (fun _ h9 => h9) rfl (by decide +kernel) rfl rfl (Nat.le_of_ble_eq_true rfl) (ws_pI (tM_0 Z) rfl) dX12_word_144 (fun H locs hP hS => ?_)
    obtain ⟨σ44, e45, h⟩ := lS_e h
    rw [← e45] at hP
    refine lv_aload_n hx hb dX12_word_147 rfl (lv_at hl 0 rfl) ?_
    refine wr_get (C := RX12) (T := TX12) (N := 41) hx hb hts (in_X12_word_X12) hown hK hP (k := 0) (by decide) ((tM_0 Z) _ _ _) rfl 19 (by decide) (hts (.fieldLink RX12 176 "TuneSearchModel" "atoms" "I") (by decide +kernel)) (fun _ h9 => h9) rfl dX12_word_148 ?_
    exact xr_iret hx hb hr hlocks hE hJ hK hP hS h dX12_word_151
  · have h := if_n h (fun z => z q34)
    refine lv_bipush (v := (-10)) hx hb dX12_word_77 (by decide) ?_
    refine lv_aload_n hx hb dX12_word_79 rfl (lv_at hl 0 rfl) ?_
    refine wr_get (C := RX12) (T := TX12) (N := 41) hx hb hts (in_X12_word_X12) hown hK hP (k := 0) (by decide) ((tM_0 Z) _ _ _) rfl 13 (by decide) (hts (.fieldLink RX12 130 "TuneSearchModel" "faultPlace" "I") (by decide +kernel)) (fun _ h9 => h9) rfl dX12_word_80 ?_
    refine lv_isub hx hb dX12_word_83 ?_
    exact xr_iret hx hb hr hlocks hE hJ hK hP hS h dX12_word_84
def m_X12_word_0    (σ : SG)  : Option (Int32 × SG) :=
  lS (sI σ 0 0 0) (fun σ1 => lS (sI σ1 0 8 0) (fun σ3 => lS (sI σ3 0 12 0) (fun σ5 => lS (sI σ5 0 18 0) (fun σ7 => lS (sI σ7 0 19 0) (fun σ9 => lS (sI σ9 0 20 0) (fun σ11 => bi (m_X12_next  σ11 ) (fun v13 σ14 => bi (t_alt 10 σ14 ) (fun v16 σ17 => bi (m_X12_good  σ17 ) (fun v19 σ20 => if v19 = 0 then (m_X12_word_57    σ20 v16) else (if (σ20.1 0 9) = 0 then (m_X12_word_57    σ20 v16) else (bi (m_X12_misplaced  σ20 ) (fun v24 σ25 => m_X12_word_57    σ25 v16))))))))))))
set_option maxHeartbeats 4000000 in
set_option maxRecDepth 100000 in
theorem kb_X12_word_0 {p : Program} {l : Launch} {e : Env} {s : State} {m : MethodId} {args : Array Value} {below : List Frame} {meth : Method} {c : Code} (Z : ZT)    (C : cy p s m args meth c cX12_word (some .int) 2 RX12 wsX12_word (EM Z) (zD Z) vwCl 24 (za Z) (tysM Z)) {res : Int32 × SG}   : ∀ (σ : SG)  , m_X12_word_0    σ  = some res → ∀ (H : Heap) (locs : List Loc), ws_P (zD Z) vwCl 24 (za Z) (tM Z) σ H → va_S (ws_A 24 (za Z)) s.heap H locs → ∀ (ls : Array Slot), lv_has ls 2 [(0, .ref (za Z 0))] → W p l e rm_X12_word s m args below meth c H locs 0 0 (MQ below (xQi (EM Z) (zD Z) vwCl 24 (za Z) (tM Z) (tysM Z) res) args s 0 0 (ws_A 24 (za Z))) (F0 m 0 ls []) := by
  have C0 := C
  obtain ⟨hx, hb, hr, hlocks, hml, hown, hts, hE, hJ, hK⟩ := C0
  intro σ   h H locs hP hS ls hl
  unfold m_X12_word_0 at h
  refine lv_aload_n hx hb dX12_word_0 rfl (lv_at hl 0 rfl) ?_
  refine lv_iconst (v := 0) hx hb dX12_word_1 (by decide) ?_
  refine wr_put (C := RX12) (T := TX12) (N := 41) (σ' := sI σ 0 0 0) (ty := .int) hx hb hts (in_X12_word_X12) tyX12 tyX12_ok nmX12 hown hK hP hJ hS (k := 0) (by decide) ((tM_0 Z) _ _ _) rfl 0 (by decide) (hts (.fieldLink RX12 87 "TuneSearchModel" "code" "I") (by decide +kernel)) (fun _ h9 => h9) rfl (by decide +kernel) rfl rfl (Nat.le_of_ble_eq_true rfl) (ws_pI (tM_0 Z) rfl) dX12_word_2 (fun H locs hP hS => ?_)
  obtain ⟨σ1, e2, h⟩ := lS_e h
  rw [← e2] at hP
  refine lv_aload_n hx hb dX12_word_5 rfl (lv_at hl 0 rfl) ?_
  refine lv_iconst (v := 0) hx hb dX12_word_6 (by decide) ?_
  refine wr_put (C := RX12) (T := TX12) (N := 41) (σ' := sI σ1 0 8 0) (ty := .int) hx hb hts (in_X12_word_X12) tyX12 tyX12_ok nmX12 hown hK hP hJ hS (k := 0) (by decide) ((tM_0 Z) _ _ _) rfl 8 (by decide) (hts (.fieldLink RX12 104 "TuneSearchModel" "pos" "I") (by decide +kernel)) (fun _ h9 => h9) rfl (by decide +kernel) rfl rfl (Nat.le_of_ble_eq_true rfl) (ws_pI (tM_0 Z) rfl) dX12_word_7 (fun H locs hP hS => ?_)
  obtain ⟨σ3, e4, h⟩ := lS_e h
  rw [← e4] at hP
  refine lv_aload_n hx hb dX12_word_10 rfl (lv_at hl 0 rfl) ?_
  refine lv_iconst (v := 0) hx hb dX12_word_11 (by decide) ?_
  refine wr_put (C := RX12) (T := TX12) (N := 41) (σ' := sI σ3 0 12 0) (ty := .int) hx hb hts (in_X12_word_X12) tyX12 tyX12_ok nmX12 hown hK hP hJ hS (k := 0) (by decide) ((tM_0 Z) _ _ _) rfl 12 (by decide) (hts (.fieldLink RX12 127 "TuneSearchModel" "faultNumber" "I") (by decide +kernel)) (fun _ h9 => h9) rfl (by decide +kernel) rfl rfl (Nat.le_of_ble_eq_true rfl) (ws_pI (tM_0 Z) rfl) dX12_word_12 (fun H locs hP hS => ?_)
  obtain ⟨σ5, e6, h⟩ := lS_e h
  rw [← e6] at hP
  refine lv_aload_n hx hb dX12_word_15 rfl (lv_at hl 0 rfl) ?_
  refine lv_iconst (v := 0) hx hb dX12_word_16 (by decide) ?_
  refine wr_put (C := RX12) (T := TX12) (N := 41) (σ' := sI σ5 0 18 0) (ty := .int) hx hb hts (in_X12_word_X12) tyX12 tyX12_ok nmX12 hown hK hP hJ hS (k := 0) (by decide) ((tM_0 Z) _ _ _) rfl 18 (by decide) (hts (.fieldLink RX12 150 "TuneSearchModel" "nodes" "I") (by decide +kernel)) (fun _ h9 => h9) rfl (by decide +kernel) rfl rfl (Nat.le_of_ble_eq_true rfl) (ws_pI (tM_0 Z) rfl) dX12_word_17 (fun H locs hP hS => ?_)
  obtain ⟨σ7, e8, h⟩ := lS_e h
  rw [← e8] at hP
  refine lv_aload_n hx hb dX12_word_20 rfl (lv_at hl 0 rfl) ?_
  refine lv_iconst (v := 0) hx hb dX12_word_21 (by decide) ?_
  refine wr_put (C := RX12) (T := TX12) (N := 41) (σ' := sI σ7 0 19 0) (ty := .int) hx hb hts (in_X12_word_X12) tyX12 tyX12_ok nmX12 hown hK hP hJ hS (k := 0) (by decide) ((tM_0 Z) _ _ _) rfl 19 (by decide) (hts (.fieldLink RX12 176 "TuneSearchModel" "atoms" "I") (by decide +kernel)) (fun _ h9 => h9) rfl (by decide +kernel) rfl rfl (Nat.le_of_ble_eq_true rfl) (ws_pI (tM_0 Z) rfl) dX12_word_22 (fun H locs hP hS => ?_)
  obtain ⟨σ9, e10, h⟩ := lS_e h
  rw [← e10] at hP
  refine lv_aload_n hx hb dX12_word_25 rfl (lv_at hl 0 rfl) ?_
  refine lv_iconst (v := 0) hx hb dX12_word_26 (by decide) ?_
  refine wr_put (C := RX12) (T := TX12) (N := 41) (σ' := sI σ9 0 20 0) (ty := .int) hx hb hts (in_X12_word_X12) tyX12 tyX12_ok nmX12 hown hK hP hJ hS (k := 0) (by decide) ((tM_0 Z) _ _ _) rfl 20 (by decide) (hts (.fieldLink RX12 167 "TuneSearchModel" "open" "I") (by decide +kernel)) (fun _ h9 => h9) rfl (by decide +kernel) rfl rfl (Nat.le_of_ble_eq_true rfl) (ws_pI (tM_0 Z) rfl) dX12_word_27 (fun H locs hP hS => ?_)
  obtain ⟨σ11, e12, h⟩ := lS_e h
  rw [← e12] at hP
  refine lv_aload_n hx hb dX12_word_30 rfl (lv_at hl 0 rfl) ?_
  obtain ⟨v13, σ14, hm15, h⟩ := bi_e h
  refine xr_callv (res := (v13, σ14)) (va_runV (As := []) (rest := []) ⟨hx, hb, hml, hown, hts⟩ (k_X12_next l Z   σ11  hm15) (cwV 0 hts gX12_word_X12_next rfl rfl rfl (by decide +kernel) ⟨Nat.le_of_ble_eq_true rfl, Nat.le_of_ble_eq_true rfl⟩) ⟨wx_blind, wr_recv hK hP (k := 0) (by decide) ((tM_0 Z) _ _ _) rfl, fun U hU hW => ⟨rfl, wx_at hE hJ hP hK hS hU hW⟩⟩ rfl rfl hl.1 rfl (lv_room (Nat.le_of_ble_eq_true rfl)) dX12_word_31 ⟨Nat.le_of_ble_eq_true rfl, Nat.le_of_ble_eq_true rfl⟩) hS (fun H locs hP hS => ?_)
  have hP : ws_P (zD Z) vwCl 24 (za Z) (tM Z) σ14 H := hP
  refine lv_aload_n hx hb dX12_word_34 rfl (lv_at hl 0 rfl) ?_
  obtain ⟨v16, σ17, hm18, h⟩ := bi_e h
  refine xr_calli (res := (v16, σ17)) (va_runV (As := []) (rest := []) ⟨hx, hb, hml, hown, hts⟩ (k_alt l Z 10 σ14  _ hm18) (cwV 0 hts gX12_word_X12_alternatives rfl rfl rfl (by decide +kernel) ⟨Nat.le_of_ble_eq_true rfl, Nat.le_of_ble_eq_true rfl⟩) ⟨wx_blind, wr_recv hK hP (k := 0) (by decide) ((tM_0 Z) _ _ _) rfl, fun U hU hW => ⟨rfl, wx_at hE hJ hP hK hS hU hW⟩⟩ rfl rfl hl.1 rfl (lv_room (Nat.le_of_ble_eq_true rfl)) dX12_word_35 ⟨Nat.le_of_ble_eq_true rfl, Nat.le_of_ble_eq_true rfl⟩) hS (fun H locs hP hS => ?_)
  have hP : ws_P (zD Z) vwCl 24 (za Z) (tM Z) σ17 H := hP
  refine lv_istore_n (lv' := [(1, .int v16), (0, .ref (za Z 0))]) hx hb dX12_word_38 rfl hl (by decide) rfl (fun ls hl => ?_)
  refine lv_aload_n hx hb dX12_word_39 rfl (lv_at hl 1 rfl) ?_
  obtain ⟨v19, σ20, hm21, h⟩ := bi_e h
  refine xr_calli (res := (v19, σ20)) (va_runV (As := []) (rest := []) ⟨hx, hb, hml, hown, hts⟩ (k_X12_good l Z   σ17  hm21) (cwV 0 hts gX12_word_X12_good rfl rfl rfl (by decide +kernel) ⟨Nat.le_of_ble_eq_true rfl, Nat.le_of_ble_eq_true rfl⟩) ⟨wx_blind, wr_recv hK hP (k := 0) (by decide) ((tM_0 Z) _ _ _) rfl, fun U hU hW => ⟨rfl, wx_at hE hJ hP hK hS hU hW⟩⟩ rfl rfl hl.1 rfl (lv_room (Nat.le_of_ble_eq_true rfl)) dX12_word_40 ⟨Nat.le_of_ble_eq_true rfl, Nat.le_of_ble_eq_true rfl⟩) hS (fun H locs hP hS => ?_)
  have hP : ws_P (zD Z) vwCl 24 (za Z) (tM Z) σ20 H := hP
  refine lv_if_eq (tgt := 57) hx hb dX12_word_43 (by decide) (fun q22 => ?_) (fun q22 => ?_)
  · have h := if_p h q22
    exact kb_X12_word_57 Z    C   σ20 v16 h H locs hP hS ls (lv_sub hl [1, 0] rfl)
  · have h := if_n h q22
    refine lv_aload_n hx hb dX12_word_46 rfl (lv_at hl 1 rfl) ?_
    refine wr_get (C := RX12) (T := TX12) (N := 41) hx hb hts (in_X12_word_X12) hown hK hP (k := 0) (by decide) ((tM_0 Z) _ _ _) rfl 9 (by decide) (hts (.fieldLink RX12 110 "TuneSearchModel" "token" "I") (by decide +kernel)) (fun _ h9 => h9) rfl dX12_word_47 ?_
    refine lv_if_eq (tgt := 57) hx hb dX12_word_50 (by decide) (fun q23 => ?_) (fun q23 => ?_)
    · have h := if_p h q23
      exact kb_X12_word_57 Z    C   σ20 v16 h H locs hP hS ls (lv_sub hl [1, 0] rfl)
    · have h := if_n h q23
      refine lv_aload_n hx hb dX12_word_53 rfl (lv_at hl 1 rfl) ?_
      obtain ⟨v24, σ25, hm26, h⟩ := bi_e h
      refine xr_callv (res := (v24, σ25)) (va_runV (As := []) (rest := []) ⟨hx, hb, hml, hown, hts⟩ (k_X12_misplaced l Z   σ20  hm26) (cwV 0 hts gX12_word_X12_misplaced rfl rfl rfl (by decide +kernel) ⟨Nat.le_of_ble_eq_true rfl, Nat.le_of_ble_eq_true rfl⟩) ⟨wx_blind, wr_recv hK hP (k := 0) (by decide) ((tM_0 Z) _ _ _) rfl, fun U hU hW => ⟨rfl, wx_at hE hJ hP hK hS hU hW⟩⟩ rfl rfl hl.1 rfl (lv_room (Nat.le_of_ble_eq_true rfl)) dX12_word_54 ⟨Nat.le_of_ble_eq_true rfl, Nat.le_of_ble_eq_true rfl⟩) hS (fun H locs hP hS => ?_)
      have hP : ws_P (zD Z) vwCl 24 (za Z) (tM Z) σ25 H := hP
      exact kb_X12_word_57 Z    C   σ25 v16 h H locs hP hS ls (lv_sub hl [1, 0] rfl)
def m_X12_word   (σ : SG)  : Option (Int32 × SG) := m_X12_word_0   σ 
set_option maxHeartbeats 4000000 in
set_option maxRecDepth 100000 in
theorem k_X12_word (l : Launch) (Z : ZT)    (σ : SG)  {res : Int32 × SG} (h : m_X12_word   σ  = some res) : Met l yX12_word wsX12_word rm_X12_word (va_Pc [.ref (za Z 0)] (wx (EM Z) (zD Z) vwCl 24 (za Z) (tM Z) (tysM Z) σ)) (xQi (EM Z) (zD Z) vwCl 24 (za Z) (tM Z) (tysM Z) res) 0 0 (ws_A 24 (za Z)) := by
  refine Met.ofW (cc := cX12_word) (maxL := 2) (ret := (some .int)) (by decide) rfl ?_
  intro p e s m args below meth c s₁ B hml hv
  obtain ⟨rfl, hE, hJ, hP, hK⟩ := hv
  have hl := lv_entry ([.ref (za Z 0)]) (n := 2) (Nat.le_of_ble_eq_true rfl)
  rw [lg_entry_eq]
  generalize (lg_sl ([.ref (za Z 0)]) ++ List.replicate (2 - (lg_sl ([.ref (za Z 0)])).length) Slot.unset).toArray = ls at hl ⊢
  exact kb_X12_word_0 Z    ⟨B.exec, B.bytes, B.returns, B.notSynchronized, hml, findClass_of_methodNamed B.named, atoms_spec (ws := wsX12_word) B.pre, hE, hJ, hK⟩ σ  h s.heap [] hP va_S.rf ls hl
