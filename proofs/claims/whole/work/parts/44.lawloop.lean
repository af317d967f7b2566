/-! ===== the law's loop: one step of the script is one call on both ===== -/
def lg_s0 (a b c : Int32) (σx σm σx' σm' : SG) : Prop := ∃ r : Int32, m_X11_tune σx  = some (r, σx') ∧ m_X12_tune σm  = some (r, σm')
def lg_s1 (a b c : Int32) (σx σm σx' σm' : SG) : Prop := ∃ r : Int32, m_X11_note σx a b c = some (r, σx') ∧ m_X12_note σm a b c = some (r, σm')
def lg_s2 (a b c : Int32) (σx σm σx' σm' : SG) : Prop := ∃ r : Int32, m_X11_query σx a b = some (r, σx') ∧ m_X12_query σm a b = some (r, σm')
def lg_s3 (a b c : Int32) (σx σm σx' σm' : SG) : Prop := ∃ r : Int32, m_X11_forget σx  = some (r, σx') ∧ m_X12_forget σm  = some (r, σm')
def lg_s4 (a b c : Int32) (σx σm σx' σm' : SG) : Prop := ∃ r : Int32, m_X11_price σx a b = some (r, σx') ∧ m_X12_price σm a b = some (r, σm')
def lg_s5 (a b c : Int32) (σx σm σx' σm' : SG) : Prop := ∃ r : Int32, m_X11_type σx (((a.toInt64) <<< ((32 : Int32).toInt64 &&& 63)) ||| ((b.toInt64) &&& 4294967295)) c = some (r, σx') ∧ m_X12_type σm (((a.toInt64) <<< ((32 : Int32).toInt64 &&& 63)) ||| ((b.toInt64) &&& 4294967295)) c = some (r, σm')
def lg_s6 (a b c : Int32) (σx σm σx' σm' : SG) : Prop := ∃ r : Int32, m_X11_word σx  = some (r, σx') ∧ m_X12_word σm  = some (r, σm')
def lg_s7 (a b c : Int32) (σx σm σx' σm' : SG) : Prop := ∃ r : Int32, m_X11_fault σx  = some (r, σx') ∧ m_X12_fault_ σm  = some (r, σm')
def lg_s8 (a b c : Int32) (σx σm σx' σm' : SG) : Prop := ∃ r : Int32, m_X11_find σx a = some (r, σx') ∧ m_X12_find_ σm a = some (r, σm')
def lg_s9 (a b c : Int32) (σx σm σx' σm' : SG) : Prop := ∃ r : Int32, m_X11_near σx a b = some (r, σx') ∧ m_X12_near σm a b = some (r, σm')
def lg_s10 (a b c : Int32) (σx σm σx' σm' : SG) : Prop := (∃ (v : Int32) (σ1 : SG), m_X11_found σx a b = some (.inl v, σx') ∧ m_X12_found σm a b = some (v, σ1) ∧ m_X12_thrown σ1 = some (0, σm')) ∨ (∃ (r : Int32) (σ1 : SG), m_X11_found σx a b = some (.inr true, σx') ∧ m_X12_found σm a b = some (r, σ1) ∧ m_X12_thrown σ1 = some (1, σm'))
def lg_s11 (a b c : Int32) (σx σm σx' σm' : SG) : Prop := ∃ r : Int32, m_X11_distance σx a b c = some (r, σx') ∧ m_X12_distance σm a b c = some (r, σm')
def lg_s12 (a b c : Int32) (σx σm σx' σm' : SG) : Prop := ∃ r : Int64, m_X11_freight σx a b = some (r, σx') ∧ m_X12_freight σm a b = some (r, σm')
def lg_s13 (a b c : Int32) (σx σm σx' σm' : SG) : Prop := (∃ (v : Int64) (σ1 : SG), m_X11_share σx a b = some (.inl v, σx') ∧ m_X12_share σm a b = some (v, σ1) ∧ m_X12_thrown σ1 = some (0, σm')) ∨ (∃ (r : Int64) (σ1 : SG), m_X11_share σx a b = some (.inr true, σx') ∧ m_X12_share σm a b = some (r, σ1) ∧ m_X12_thrown σ1 = some (1, σm')) ∨ (∃ (r : Int64) (σ1 : SG), m_X11_share σx a b = some (.inr false, σx') ∧ m_X12_share σm a b = some (r, σ1) ∧ m_X12_thrown σ1 = some (2, σm'))
def lg_s14 (a b c : Int32) (σx σm σx' σm' : SG) : Prop := ∃ r : Int32, m_X11_families σx a = some (r, σx') ∧ m_X12_families σm a = some (r, σm')
def lg_s15 (a b c : Int32) (σx σm σx' σm' : SG) : Prop := ∃ r : Int32, m_X11_family σx a = some (r, σx') ∧ m_X12_family σm a = some (r, σm')
def lg_s16 (a b c : Int32) (σx σm σx' σm' : SG) : Prop := ∃ r : Int32, m_X11_told σx a = some (r, σx') ∧ m_X12_told σm a = some (r, σm')
def lg_step (w a b c : Int32) (σx σm σx' σm' : SG) : Prop :=
  (w = 0 → lg_s0 a b c σx σm σx' σm') ∧ (w = 1 → lg_s1 a b c σx σm σx' σm') ∧ (w = 2 → lg_s2 a b c σx σm σx' σm') ∧ (w = 3 → lg_s3 a b c σx σm σx' σm') ∧ (w = 4 → lg_s4 a b c σx σm σx' σm') ∧ (w = 5 → lg_s5 a b c σx σm σx' σm') ∧ (w = 6 → lg_s6 a b c σx σm σx' σm') ∧ (w = 7 → lg_s7 a b c σx σm σx' σm') ∧ (w = 8 → lg_s8 a b c σx σm σx' σm') ∧ (w = 9 → lg_s9 a b c σx σm σx' σm') ∧ (w = 10 → lg_s10 a b c σx σm σx' σm') ∧ (w = 11 → lg_s11 a b c σx σm σx' σm') ∧ (w = 12 → lg_s12 a b c σx σm σx' σm') ∧ (w = 13 → lg_s13 a b c σx σm σx' σm') ∧ (w = 14 → lg_s14 a b c σx σm σx' σm') ∧ (w = 15 → lg_s15 a b c σx σm σx' σm') ∧ (w = 16 → lg_s16 a b c σx σm σx' σm') ∧ (w.toInt < 0 ∨ 16 < w.toInt → σx' = σx ∧ σm' = σm)
set_option maxHeartbeats 4000000 in
set_option maxRecDepth 100000 in
theorem lg_body {p : Program} {l : Launch} {e : Env} {s : State} {m : MethodId} {below : List Frame} {meth : Method} {c : Code} {b L i o : Nat} {xs : Nat → Int32} {Zx Zm : ZT} {x4 : Int32} {σx σm σx' σm' : SG} {f : Nat → Int64} {H : Heap} {locs : List Loc} {cells slots : Nat} {Q : State → Prop} {ls : Array Slot} (C : LC p l s m meth c b L xs) (hZ : LZ Zx Zm o s) (hi : i + 4 ≤ L) (hL : L ≤ 2048) (ex4 : x4 = nI i) (hI : LI Zx Zm o s σx σm f H locs) (hcc : cells ≤ 600000) (hss : slots ≤ 7000000) (hl : lv_has ls 8 [(0, .ref b), (1, .ref (za Zx 155)), (2, .ref (za Zm 0)), (3, .ref o), (4, .int x4)]) (hs : lg_step (xs i &&& 31) (xs (i + 1)) (xs (i + 2)) (xs (i + 3)) σx σm σx' σm') (kk : ∀ (f : Nat → Int64) (H : Heap) (locs : List Loc) (ls : Array Slot) (ce sl : Nat), ce ≤ cells + 1 → sl ≤ slots + 6 → LI Zx Zm o s σx' σm' f H locs → lv_has ls 8 [(0, .ref b), (1, .ref (za Zx 155)), (2, .ref (za Zm 0)), (3, .ref o), (4, .int x4)] → W p l e room_1 s m #[Value.ref b] below meth c H locs ce sl Q (F0 m 723 ls [])) : W p l e room_1 s m #[Value.ref b] below meth c H locs cells slots Q (F0 m 39 ls [.int (xs i &&& 31)]) := by
  obtain ⟨s0, s1, s2, s3, s4, s5, s6, s7, s8, s9, s10, s11, s12, s13, s14, s15, s16, s17⟩ := hs
  have hx := C.1
  have hb := C.2.1
  by_cases q0 : xs i &&& 31 = 0
  · refine lv_tableIn (tgt := 120) hx hb dL_law_39 (by rw [q0]; decide) (by rw [q0]; decide) (by rw [q0]; rfl) (by decide) ?_
    obtain ⟨r, h0, h1⟩ := s0 q0
    exact lc_0 C hZ hi hL ex4 hI hcc hss hl h0 h1 (fun H locs ls hI hl => kk _ H locs ls _ _ (Nat.le_add_right _ _) (Nat.le_add_right _ _) hI hl)
  by_cases q1 : xs i &&& 31 = 1
  · refine lv_tableIn (tgt := 133) hx hb dL_law_39 (by rw [q1]; decide) (by rw [q1]; decide) (by rw [q1]; rfl) (by decide) ?_
    obtain ⟨r, h0, h1⟩ := s1 q1
    exact lc_1 C hZ hi hL ex4 hI hcc hss hl h0 h1 (fun H locs ls hI hl => kk _ H locs ls _ _ (Nat.le_add_right _ _) (Nat.le_add_right _ _) hI hl)
  by_cases q2 : xs i &&& 31 = 2
  · refine lv_tableIn (tgt := 182) hx hb dL_law_39 (by rw [q2]; decide) (by rw [q2]; decide) (by rw [q2]; rfl) (by decide) ?_
    obtain ⟨r, h0, h1⟩ := s2 q2
    exact lc_2 C hZ hi hL ex4 hI hcc hss hl h0 h1 (fun H locs ls hI hl => kk _ H locs ls _ _ (Nat.le_add_right _ _) (Nat.le_add_right _ _) hI hl)
  by_cases q3 : xs i &&& 31 = 3
  · refine lv_tableIn (tgt := 219) hx hb dL_law_39 (by rw [q3]; decide) (by rw [q3]; decide) (by rw [q3]; rfl) (by decide) ?_
    obtain ⟨r, h0, h1⟩ := s3 q3
    exact lc_3 C hZ hi hL ex4 hI hcc hss hl h0 h1 (fun H locs ls hI hl => kk _ H locs ls _ _ (Nat.le_add_right _ _) (Nat.le_add_right _ _) hI hl)
  by_cases q4 : xs i &&& 31 = 4
  · refine lv_tableIn (tgt := 232) hx hb dL_law_39 (by rw [q4]; decide) (by rw [q4]; decide) (by rw [q4]; rfl) (by decide) ?_
    obtain ⟨r, h0, h1⟩ := s4 q4
    exact lc_4 C hZ hi hL ex4 hI hcc hss hl h0 h1 (fun H locs ls hI hl => kk _ H locs ls _ _ (Nat.le_add_right _ _) (Nat.le_add_right _ _) hI hl)
  by_cases q5 : xs i &&& 31 = 5
  · refine lv_tableIn (tgt := 269) hx hb dL_law_39 (by rw [q5]; decide) (by rw [q5]; decide) (by rw [q5]; rfl) (by decide) ?_
    obtain ⟨r, h0, h1⟩ := s5 q5
    exact lc_5 C hZ hi hL ex4 hI hcc hss hl h0 h1 (fun H locs ls hI hl => kk _ H locs ls _ _ (Nat.le_add_right _ _) (Nat.le_add_right _ _) hI hl)
  by_cases q6 : xs i &&& 31 = 6
  · refine lv_tableIn (tgt := 338) hx hb dL_law_39 (by rw [q6]; decide) (by rw [q6]; decide) (by rw [q6]; rfl) (by decide) ?_
    obtain ⟨r, h0, h1⟩ := s6 q6
    exact lc_6 C hZ hi hL ex4 hI hcc hss hl h0 h1 (fun H locs ls hI hl => kk _ H locs ls _ _ (Nat.le_add_right _ _) (Nat.le_add_right _ _) hI hl)
  by_cases q7 : xs i &&& 31 = 7
  · refine lv_tableIn (tgt := 351) hx hb dL_law_39 (by rw [q7]; decide) (by rw [q7]; decide) (by rw [q7]; rfl) (by decide) ?_
    obtain ⟨r, h0, h1⟩ := s7 q7
    exact lc_7 C hZ hi hL ex4 hI hcc hss hl h0 h1 (fun H locs ls hI hl => kk _ H locs ls _ _ (Nat.le_add_right _ _) (Nat.le_add_right _ _) hI hl)
  by_cases q8 : xs i &&& 31 = 8
  · refine lv_tableIn (tgt := 364) hx hb dL_law_39 (by rw [q8]; decide) (by rw [q8]; decide) (by rw [q8]; rfl) (by decide) ?_
    obtain ⟨r, h0, h1⟩ := s8 q8
    exact lc_8 C hZ hi hL ex4 hI hcc hss hl h0 h1 (fun H locs ls hI hl => kk _ H locs ls _ _ (Nat.le_add_right _ _) (Nat.le_add_right _ _) hI hl)
  by_cases q9 : xs i &&& 31 = 9
  · refine lv_tableIn (tgt := 389) hx hb dL_law_39 (by rw [q9]; decide) (by rw [q9]; decide) (by rw [q9]; rfl) (by decide) ?_
    obtain ⟨r, h0, h1⟩ := s9 q9
    exact lc_9 C hZ hi hL ex4 hI hcc hss hl h0 h1 (fun H locs ls hI hl => kk _ H locs ls _ _ (Nat.le_add_right _ _) (Nat.le_add_right _ _) hI hl)
  by_cases q10 : xs i &&& 31 = 10
  · refine lv_tableIn (tgt := 426) hx hb dL_law_39 (by rw [q10]; decide) (by rw [q10]; decide) (by rw [q10]; rfl) (by decide) ?_
    rcases s10 q10 with ⟨v, σ1, h0, h1, h2⟩ | ⟨v, σ1, h0, h1, h2⟩
    · exact lc_10v C hZ hi hL ex4 hI hcc hss hl h0 h1 h2 (fun H locs ls hI hl => kk _ H locs ls _ _ (Nat.le_refl _) (Nat.le_refl _) hI hl)
    · exact lc_10x C hZ hi hL ex4 hI hcc hss hl h0 h1 h2 (fun H locs ls hI hl => kk _ H locs ls _ _ (Nat.le_refl _) (Nat.le_refl _) hI hl)
  by_cases q11 : xs i &&& 31 = 11
  · refine lv_tableIn (tgt := 494) hx hb dL_law_39 (by rw [q11]; decide) (by rw [q11]; decide) (by rw [q11]; rfl) (by decide) ?_
    obtain ⟨r, h0, h1⟩ := s11 q11
    exact lc_11 C hZ hi hL ex4 hI hcc hss hl h0 h1 (fun H locs ls hI hl => kk _ H locs ls _ _ (Nat.le_add_right _ _) (Nat.le_add_right _ _) hI hl)
  by_cases q12 : xs i &&& 31 = 12
  · refine lv_tableIn (tgt := 543) hx hb dL_law_39 (by rw [q12]; decide) (by rw [q12]; decide) (by rw [q12]; rfl) (by decide) ?_
    obtain ⟨r, h0, h1⟩ := s12 q12
    exact lc_12 C hZ hi hL ex4 hI hcc hss hl h0 h1 (fun H locs ls hI hl => kk _ H locs ls _ _ (Nat.le_add_right _ _) (Nat.le_add_right _ _) hI hl)
  by_cases q13 : xs i &&& 31 = 13
  · refine lv_tableIn (tgt := 581) hx hb dL_law_39 (by rw [q13]; decide) (by rw [q13]; decide) (by rw [q13]; rfl) (by decide) ?_
    rcases s13 q13 with ⟨v, σ1, h0, h1, h2⟩ | ⟨v, σ1, h0, h1, h2⟩ | ⟨v, σ1, h0, h1, h2⟩
    · exact lc_13v C hZ hi hL ex4 hI hcc hss hl h0 h1 h2 (fun H locs ls hI hl => kk _ H locs ls _ _ (Nat.le_refl _) (Nat.le_refl _) hI hl)
    · exact lc_13x C hZ hi hL ex4 hI hcc hss hl h0 h1 h2 (fun H locs ls hI hl => kk _ H locs ls _ _ (Nat.le_refl _) (Nat.le_refl _) hI hl)
    · exact lc_13y C hZ hi hL ex4 hI hcc hss hl h0 h1 h2 (fun H locs ls hI hl => kk _ H locs ls _ _ (Nat.le_refl _) (Nat.le_refl _) hI hl)
  by_cases q14 : xs i &&& 31 = 14
  · refine lv_tableIn (tgt := 648) hx hb dL_law_39 (by rw [q14]; decide) (by rw [q14]; decide) (by rw [q14]; rfl) (by decide) ?_
    obtain ⟨r, h0, h1⟩ := s14 q14
    exact lc_14 C hZ hi hL ex4 hI hcc hss hl h0 h1 (fun H locs ls hI hl => kk _ H locs ls _ _ (Nat.le_add_right _ _) (Nat.le_add_right _ _) hI hl)
  by_cases q15 : xs i &&& 31 = 15
  · refine lv_tableIn (tgt := 673) hx hb dL_law_39 (by rw [q15]; decide) (by rw [q15]; decide) (by rw [q15]; rfl) (by decide) ?_
    obtain ⟨r, h0, h1⟩ := s15 q15
    exact lc_15 C hZ hi hL ex4 hI hcc hss hl h0 h1 (fun H locs ls hI hl => kk _ H locs ls _ _ (Nat.le_add_right _ _) (Nat.le_add_right _ _) hI hl)
  by_cases q16 : xs i &&& 31 = 16
  · refine lv_tableIn (tgt := 698) hx hb dL_law_39 (by rw [q16]; decide) (by rw [q16]; decide) (by rw [q16]; rfl) (by decide) ?_
    obtain ⟨r, h0, h1⟩ := s16 q16
    exact lc_16 C hZ hi hL ex4 hI hcc hss hl h0 h1 (fun H locs ls hI hl => kk _ H locs ls _ _ (Nat.le_add_right _ _) (Nat.le_add_right _ _) hI hl)
  have z : (xs i &&& 31).toInt < 0 ∨ 16 < (xs i &&& 31).toInt := by
    rcases Classical.em ((xs i &&& 31).toInt < 0 ∨ 16 < (xs i &&& 31).toInt) with z | z
    · exact z
    · exfalso
      have z2 : (xs i &&& 31).toInt = 0 ∨ (xs i &&& 31).toInt = 1 ∨ (xs i &&& 31).toInt = 2 ∨ (xs i &&& 31).toInt = 3 ∨ (xs i &&& 31).toInt = 4 ∨ (xs i &&& 31).toInt = 5 ∨ (xs i &&& 31).toInt = 6 ∨ (xs i &&& 31).toInt = 7 ∨ (xs i &&& 31).toInt = 8 ∨ (xs i &&& 31).toInt = 9 ∨ (xs i &&& 31).toInt = 10 ∨ (xs i &&& 31).toInt = 11 ∨ (xs i &&& 31).toInt = 12 ∨ (xs i &&& 31).toInt = 13 ∨ (xs i &&& 31).toInt = 14 ∨ (xs i &&& 31).toInt = 15 ∨ (xs i &&& 31).toInt = 16 := by omega
      rcases z2 with z2 | z2 | z2 | z2 | z2 | z2 | z2 | z2 | z2 | z2 | z2 | z2 | z2 | z2 | z2 | z2 | z2
      · exact q0 (Int32.toInt_inj.mp (z2.trans (by decide)))
      · exact q1 (Int32.toInt_inj.mp (z2.trans (by decide)))
      · exact q2 (Int32.toInt_inj.mp (z2.trans (by decide)))
      · exact q3 (Int32.toInt_inj.mp (z2.trans (by decide)))
      · exact q4 (Int32.toInt_inj.mp (z2.trans (by decide)))
      · exact q5 (Int32.toInt_inj.mp (z2.trans (by decide)))
      · exact q6 (Int32.toInt_inj.mp (z2.trans (by decide)))
      · exact q7 (Int32.toInt_inj.mp (z2.trans (by decide)))
      · exact q8 (Int32.toInt_inj.mp (z2.trans (by decide)))
      · exact q9 (Int32.toInt_inj.mp (z2.trans (by decide)))
      · exact q10 (Int32.toInt_inj.mp (z2.trans (by decide)))
      · exact q11 (Int32.toInt_inj.mp (z2.trans (by decide)))
      · exact q12 (Int32.toInt_inj.mp (z2.trans (by decide)))
      · exact q13 (Int32.toInt_inj.mp (z2.trans (by decide)))
      · exact q14 (Int32.toInt_inj.mp (z2.trans (by decide)))
      · exact q15 (Int32.toInt_inj.mp (z2.trans (by decide)))
      · exact q16 (Int32.toInt_inj.mp (z2.trans (by decide)))
  obtain ⟨e1, e2⟩ := s17 z
  rw [e1, e2] at kk
  refine lv_tableOut (tgt := 723) hx hb dL_law_39 z (by decide) ?_
  exact kk _ H locs ls _ _ (Nat.le_add_right _ _) (Nat.le_add_right _ _) hI hl
theorem lg_i4 {i : Nat} (h : i ≤ 2048) : nI i + 4 = nI (i + 4) := nI_add i 4
theorem lg_out {i L : Nat} (hi : i ≤ 2048) (hL : L ≤ 2048) : (Int32.ofNat L - 4 < nI i) ↔ L < i + 4 := by
  have e1 : (Int32.ofNat L).toInt = L := by rw [show Int32.ofNat L = nI L from rfl]; exact nI_toInt (by omega)
  have e2 : (nI i).toInt = i := nI_toInt (by omega)
  have e3 : (Int32.ofNat L - 4).toInt = (L : Int) - 4 := by
    rw [Int32.toInt_sub, e1, show ((4 : Int32)).toInt = 4 from rfl, Int.bmod_eq_of_le] <;> omega
  rw [Int32.lt_iff_toInt_lt, e3, e2]
  omega
set_option maxHeartbeats 4000000 in
set_option maxRecDepth 100000 in
theorem lg_loop {p : Program} {l : Launch} {e : Env} {s : State} {m : MethodId} {below : List Frame} {meth : Method} {c : Code} {b L o : Nat} {xs : Nat → Int32} {Zx Zm : ZT} {Q : State → Prop} (C : LC p l s m meth c b L xs) (hZ : LZ Zx Zm o s) (hL : L ≤ 2048) (Rel : Nat → SG → SG → Prop)
    (hStep : ∀ i σx σm, i + 4 ≤ L → Rel i σx σm → ∃ σx' σm', lg_step (xs i &&& 31) (xs (i + 1)) (xs (i + 2)) (xs (i + 3)) σx σm σx' σm' ∧ Rel (i + 4) σx' σm')
    (kE : ∀ (H : Heap) (locs : List Loc) (ls : Array Slot) (cells slots : Nat), va_S (lA s) s.heap H locs → cells ≤ 600000 → slots ≤ 7000000 → W p l e room_1 s m #[Value.ref b] below meth c H locs cells slots Q (F0 m 729 ls [])) :
    ∀ (n i : Nat) (x4 : Int32) (σx σm : SG) (f : Nat → Int64) (H : Heap) (locs : List Loc) (cells slots : Nat) (ls : Array Slot), L ≤ i + 4 * n → i ≤ 2048 → x4 = nI i → Rel i σx σm → LI Zx Zm o s σx σm f H locs → cells + (2048 - i) ≤ 600000 → slots + 6 * (2048 - i) ≤ 7000000 → lv_has ls 8 [(0, .ref b), (1, .ref (za Zx 155)), (2, .ref (za Zm 0)), (3, .ref o), (4, .int x4)] →
      W p l e room_1 s m #[Value.ref b] below meth c H locs cells slots Q (F0 m 23 ls []) := by
  obtain ⟨hx, hb, hr, hml, hown, hts, hX, hbl, hlocks, hst⟩ := id C
  have hbA : ¬ lA s b := Nat.not_le.mpr hbl
  intro n
  induction n with
  | zero =>
    intro i x4 σx σm f H locs cells slots ls hn hi ex4 hR hI hcc hss hl
    refine lv_iload hx hb dL_law_23 (lv_at hl 4 rfl) ?_
    refine lv_aload_n hx hb dL_law_25 rfl (lv_at hl 0 rfl) ?_
    refine va_slen hx hb hX hbl hbA hI.2.2.2 dL_law_26 ?_
    refine lv_iconst (v := 4) hx hb dL_law_27 (by decide) ?_
    refine lv_isub hx hb dL_law_28 ?_
    refine lv_icmp_gt (tgt := 729) hx hb dL_law_29 (by decide) (fun _ => kE _ _ _ _ _ hI.2.2.2 (by omega) (by omega)) (fun q => ?_)
    rw [ex4, lg_out hi hL] at q
    exact absurd (by omega) q
  | succ n ih =>
    intro i x4 σx σm f H locs cells slots ls hn hi ex4 hR hI hcc hss hl
    refine lv_iload hx hb dL_law_23 (lv_at hl 4 rfl) ?_
    refine lv_aload_n hx hb dL_law_25 rfl (lv_at hl 0 rfl) ?_
    refine va_slen hx hb hX hbl hbA hI.2.2.2 dL_law_26 ?_
    refine lv_iconst (v := 4) hx hb dL_law_27 (by decide) ?_
    refine lv_isub hx hb dL_law_28 ?_
    refine lv_icmp_gt (tgt := 729) hx hb dL_law_29 (by decide) (fun _ => kE _ _ _ _ _ hI.2.2.2 (by omega) (by omega)) (fun q => ?_)
    rw [ex4, lg_out hi hL] at q
    have hi4 : i + 4 ≤ L := by omega
    refine lv_aload_n hx hb dL_law_32 rfl (lv_at hl 0 rfl) ?_
    refine lv_iload hx hb dL_law_33 (lv_at hl 4 rfl) ?_
    refine va_sld hx hb hX hbl hbA hI.2.2.2 (by rw [ex4]; exact vp_in_nI (by omega) (by omega)) dL_law_35 ?_
    rw [show x4.toNatClampNeg = i by rw [ex4]; exact nI_clamp (by omega)]
    refine lv_bipush (v := 31) hx hb dL_law_36 (by decide) ?_
    refine lv_iand hx hb dL_law_38 ?_
    obtain ⟨σx', σm', hs, hR'⟩ := hStep i σx σm hi4 hR
    refine lg_body C hZ hi4 hL ex4 hI (by omega) (by omega) hl hs (fun f H locs ls ce sl hce hsl hI hl => ?_)
    refine lv_iinc (v := x4 + 4) (lv' := [(4, .int (x4 + 4)), (0, .ref b), (1, .ref (za Zx 155)), (2, .ref (za Zm 0)), (3, .ref o)]) hx hb dL_law_723 hl (k := 4) rfl rfl (by decide) rfl (fun ls hl => ?_)
    refine lv_goto (tgt := 23) hx hb dL_law_726 (by decide) ?_
    exact ih (i + 4) (x4 + 4) σx' σm' f H locs ce sl ls (by omega) (by omega) (by rw [ex4, lg_i4 hi]) hR' hI (by omega) (by omega) (lv_sub hl [1, 2, 3, 4, 0] rfl)

