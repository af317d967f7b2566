abbrev ZT : Type := (Nat → ClassId) × (Nat → Nat → Nat) × (Nat → ClassId) × (Nat → Nat)
abbrev zD (Z : ZT) : va_G := (Z.1, Z.2.1)
abbrev zc (Z : ZT) : Nat → ClassId := Z.2.2.1
abbrev za (Z : ZT) : Nat → Nat := Z.2.2.2
abbrev tysX (Z : ZT) : List (ClassId × FieldType) := [(zc Z 0, .int), (zc Z 1, .long), (zc Z 2, .boolean), (zc Z 3, .object RX4), (zc Z 4, .object RX2), (zc Z 5, .array .int)]
abbrev tysM (Z : ZT) : List (ClassId × FieldType) := [(zc Z 0, .int), (zc Z 1, .long), (zc Z 2, .byte)]
def lenX (k : Nat) : Nat := if k < 16 then 24 else if k < 18 then 12 else if k < 19 then 8 else if k < 20 then 160 else if k < 21 then 24 else if k < 25 then 50 else if k < 27 then 25 else if k < 28 then 200 else if k < 40 then 24 else if k < 41 then 8 else if k < 66 then 25 else if k < 90 then 24 else if k < 95 then 200 else if k < 143 then 24 else 0
def fX_TuneSearch (Z : ZT) (i : Nat) : (Nat → Int32) → (Nat → Int64) → (Nat → Nat) → List Value := fun a b r => [.ref (za Z 148), .int (a 1), .ref (za Z (156 + 8)), .ref (za Z 18), .ref (za Z 165), .ref (za Z 166), .ref (za Z (203 + r 6)), .ref (za Z (203 + r 7)), .int (a 8), .int (a 9), .ref (za Z 205), .ref (za Z 206), .ref (za Z 207), .ref (za Z 210), .ref (za Z 40), .int (a 15)]
def fX_NoteRow (Z : ZT) (i : Nat) : (Nat → Int32) → (Nat → Int64) → (Nat → Nat) → List Value := fun a b r => [.ref (za Z (2 * i)), .ref (za Z (2 * i + 1)), .int (a 2)]
def fX_Tape (Z : ZT) (i : Nat) : (Nat → Int32) → (Nat → Int64) → (Nat → Nat) → List Value := fun a b r => [.ref (za Z 19), .int (a 1)]
def fX_WordReader (Z : ZT) (i : Nat) : (Nat → Int32) → (Nat → Int64) → (Nat → Nat) → List Value := fun a b r => [.int (a 0), .ref (za Z 149), .int (a 2), .int (a 3), .int (a 4), .int (a 5), .int (a 6), .int (a 7), .int (a 8)]
def fX_Level (Z : ZT) (i : Nat) : (Nat → Int32) → (Nat → Int64) → (Nat → Nat) → List Value := fun a b r => [.ref (za Z (176 + (3 * i))), .ref (za Z (176 + (3 * i + 1))), .ref (za Z (176 + (3 * i + 2))), .int (a 3)]
def fX_Part (Z : ZT) (i : Nat) : (Nat → Int32) → (Nat → Int64) → (Nat → Nat) → List Value := fun a b r => [.int (a 0), .long (b 1), .long (b 2)]
def fX_Word (Z : ZT) (i : Nat) : (Nat → Int32) → (Nat → Int64) → (Nat → Nat) → List Value := fun a b r => [.int (a 0), .long (b 1), .long (b 2), .ref (za Z (21 + i)), .ref (za Z (23 + i)), .ref (za Z (144 + i)), .ref (za Z (146 + i)), .int (a 7)]
def fX_Signs (Z : ZT) (i : Nat) : (Nat → Int32) → (Nat → Int64) → (Nat → Nat) → List Value := fun a b r => [.ref (za Z 20), .int (a 1)]
def fX_Ways (Z : ZT) (i : Nat) : (Nat → Int32) → (Nat → Int64) → (Nat → Nat) → List Value := fun a b r => [.ref (za Z 150), .ref (za Z 151), .ref (za Z 25), .ref (za Z 26), .int (a 4), .int (a 5), .int (a 6), .int (a 7), .int (a 8), .int (a 9)]
def fX_Finds (Z : ZT) (i : Nat) : (Nat → Int32) → (Nat → Int64) → (Nat → Nat) → List Value := fun a b r => [.int (a 0), .ref (za Z 152), .ref (za Z 27)]
def fX_Load (Z : ZT) (i : Nat) : (Nat → Int32) → (Nat → Int64) → (Nat → Nat) → List Value := fun a b r => [.ref (za Z (28 + i)), .ref (za Z (30 + i)), .ref (za Z (32 + i)), .int (a 3), .int (a 4)]
def fX_Carrier (Z : ZT) (i : Nat) : (Nat → Int32) → (Nat → Int64) → (Nat → Nat) → List Value := fun a b r => [.ref (za Z (208 + 0)), .ref (za Z (208 + 1)), .ref (za Z 153), .ref (za Z 154), .ref (za Z 34), .ref (za Z 35), .ref (za Z 36), .ref (za Z 37), .ref (za Z 38), .ref (za Z 39), .ref (za Z 143)]
def tX (Z : ZT) : TB := fun k a b r => if k < 143 then .inl (zc Z 0, lenX k, .inl a)
  else if k = 143 then .inl (zc Z 2, 24, .inl a)
  else if k < 146 then .inl (zc Z 1, 50, .inr (.inl b))
  else if k < 148 then .inl (zc Z 1, 24, .inr (.inl b))
  else if k = 148 then .inl (zc Z 3, 8, .inr (.inr (.inr (.inr (fun j => if j < 8 then some (za Z (156 + j)) else none)))))
  else if k = 149 then .inl (zc Z 4, 9, .inr (.inr (.inr (.inr (fun j => if j < 9 then some (za Z (167 + j)) else none)))))
  else if k = 150 then .inl (zc Z 5, 25, .inr (.inr (.inr (.inr (fun j => if j < 25 then some (za Z (41 + j)) else none)))))
  else if k = 151 then .inl (zc Z 5, 24, .inr (.inr (.inr (.inr (fun j => if j < 24 then some (za Z (66 + j)) else none)))))
  else if k = 152 then .inl (zc Z 5, 5, .inr (.inr (.inr (.inr (fun j => if j < 5 then some (za Z (90 + j)) else none)))))
  else if k = 153 then .inl (zc Z 5, 24, .inr (.inr (.inr (.inr (fun j => if j < 24 then some (za Z (95 + j)) else none)))))
  else if k = 154 then .inl (zc Z 5, 24, .inr (.inr (.inr (.inr (fun j => if j < 24 then some (za Z (119 + j)) else none)))))
  else if k < 156 then .inr (11, fX_TuneSearch Z (k - 155) a b r)
  else if k < 165 then .inr (4, fX_NoteRow Z (k - 156) a b r)
  else if k < 166 then .inr (7, fX_Tape Z (k - 165) a b r)
  else if k < 167 then .inr (10, fX_WordReader Z (k - 166) a b r)
  else if k < 176 then .inr (2, fX_Level Z (k - 167) a b r)
  else if k < 203 then .inr (5, fX_Part Z (k - 176) a b r)
  else if k < 205 then .inr (9, fX_Word Z (k - 203) a b r)
  else if k < 206 then .inr (6, fX_Signs Z (k - 205) a b r)
  else if k < 207 then .inr (8, fX_Ways Z (k - 206) a b r)
  else if k < 208 then .inr (1, fX_Finds Z (k - 207) a b r)
  else if k < 210 then .inr (3, fX_Load Z (k - 208) a b r)
  else if k < 211 then .inr (0, fX_Carrier Z (k - 210) a b r)
  else .inr (0, [])
theorem tX_I (Z : ZT) (k : Nat) (hk : k < 143) : ∀ a b r, tX Z k a b r = .inl (zc Z 0, lenX k, .inl a) := by
  intro a b r
  unfold tX
  rw [if_pos hk]
theorem tX_Z (Z : ZT) : ∀ a b r, tX Z 143 a b r = .inl (zc Z 2, 24, .inl a) := fun _ _ _ => rfl
theorem lenX_lows (i : Nat) (hi : i < 2) : lenX (21 + i) = 50 := by
  unfold lenX
  rw [if_neg (by omega)]; rw [if_neg (by omega)]; rw [if_neg (by omega)]; rw [if_neg (by omega)]; rw [if_neg (by omega)]; rw [if_pos (by omega)]
theorem tX_lows (Z : ZT) (i : Nat) (hi : i < 2) : ∀ a b r, tX Z (21 + i) a b r = .inl (zc Z 0, 50, .inl a) := by
  intro a b r
  rw [tX_I Z _ (by omega), lenX_lows i hi]
theorem lenX_highs (i : Nat) (hi : i < 2) : lenX (23 + i) = 50 := by
  unfold lenX
  rw [if_neg (by omega)]; rw [if_neg (by omega)]; rw [if_neg (by omega)]; rw [if_neg (by omega)]; rw [if_neg (by omega)]; rw [if_pos (by omega)]
theorem tX_highs (Z : ZT) (i : Nat) (hi : i < 2) : ∀ a b r, tX Z (23 + i) a b r = .inl (zc Z 0, 50, .inl a) := by
  intro a b r
  rw [tX_I Z _ (by omega), lenX_highs i hi]
theorem lenX_ld_pitches (i : Nat) (hi : i < 2) : lenX (28 + i) = 24 := by
  unfold lenX
  rw [if_neg (by omega)]; rw [if_neg (by omega)]; rw [if_neg (by omega)]; rw [if_neg (by omega)]; rw [if_neg (by omega)]; rw [if_neg (by omega)]; rw [if_neg (by omega)]; rw [if_neg (by omega)]; rw [if_pos (by omega)]
theorem tX_ld_pitches (Z : ZT) (i : Nat) (hi : i < 2) : ∀ a b r, tX Z (28 + i) a b r = .inl (zc Z 0, 24, .inl a) := by
  intro a b r
  rw [tX_I Z _ (by omega), lenX_ld_pitches i hi]
theorem lenX_ld_begins (i : Nat) (hi : i < 2) : lenX (30 + i) = 24 := by
  unfold lenX
  rw [if_neg (by omega)]; rw [if_neg (by omega)]; rw [if_neg (by omega)]; rw [if_neg (by omega)]; rw [if_neg (by omega)]; rw [if_neg (by omega)]; rw [if_neg (by omega)]; rw [if_neg (by omega)]; rw [if_pos (by omega)]
theorem tX_ld_begins (Z : ZT) (i : Nat) (hi : i < 2) : ∀ a b r, tX Z (30 + i) a b r = .inl (zc Z 0, 24, .inl a) := by
  intro a b r
  rw [tX_I Z _ (by omega), lenX_ld_begins i hi]
theorem lenX_ld_left (i : Nat) (hi : i < 2) : lenX (32 + i) = 24 := by
  unfold lenX
  rw [if_neg (by omega)]; rw [if_neg (by omega)]; rw [if_neg (by omega)]; rw [if_neg (by omega)]; rw [if_neg (by omega)]; rw [if_neg (by omega)]; rw [if_neg (by omega)]; rw [if_neg (by omega)]; rw [if_pos (by omega)]
theorem tX_ld_left (Z : ZT) (i : Nat) (hi : i < 2) : ∀ a b r, tX Z (32 + i) a b r = .inl (zc Z 0, 24, .inl a) := by
  intro a b r
  rw [tX_I Z _ (by omega), lenX_ld_left i hi]
theorem lenX_cells (i : Nat) (hi : i < 25) : lenX (41 + i) = 25 := by
  unfold lenX
  rw [if_neg (by omega)]; rw [if_neg (by omega)]; rw [if_neg (by omega)]; rw [if_neg (by omega)]; rw [if_neg (by omega)]; rw [if_neg (by omega)]; rw [if_neg (by omega)]; rw [if_neg (by omega)]; rw [if_neg (by omega)]; rw [if_neg (by omega)]; rw [if_pos (by omega)]
theorem tX_cells (Z : ZT) (i : Nat) (hi : i < 25) : ∀ a b r, tX Z (41 + i) a b r = .inl (zc Z 0, 25, .inl a) := by
  intro a b r
  rw [tX_I Z _ (by omega), lenX_cells i hi]
theorem lenX_pairs (i : Nat) (hi : i < 24) : lenX (66 + i) = 24 := by
  unfold lenX
  rw [if_neg (by omega)]; rw [if_neg (by omega)]; rw [if_neg (by omega)]; rw [if_neg (by omega)]; rw [if_neg (by omega)]; rw [if_neg (by omega)]; rw [if_neg (by omega)]; rw [if_neg (by omega)]; rw [if_neg (by omega)]; rw [if_neg (by omega)]; rw [if_neg (by omega)]; rw [if_pos (by omega)]
theorem tX_pairs (Z : ZT) (i : Nat) (hi : i < 24) : ∀ a b r, tX Z (66 + i) a b r = .inl (zc Z 0, 24, .inl a) := by
  intro a b r
  rw [tX_I Z _ (by omega), lenX_pairs i hi]
theorem lenX_values (i : Nat) (hi : i < 5) : lenX (90 + i) = 200 := by
  unfold lenX
  rw [if_neg (by omega)]; rw [if_neg (by omega)]; rw [if_neg (by omega)]; rw [if_neg (by omega)]; rw [if_neg (by omega)]; rw [if_neg (by omega)]; rw [if_neg (by omega)]; rw [if_neg (by omega)]; rw [if_neg (by omega)]; rw [if_neg (by omega)]; rw [if_neg (by omega)]; rw [if_neg (by omega)]; rw [if_pos (by omega)]
theorem tX_values (Z : ZT) (i : Nat) (hi : i < 5) : ∀ a b r, tX Z (90 + i) a b r = .inl (zc Z 0, 200, .inl a) := by
  intro a b r
  rw [tX_I Z _ (by omega), lenX_values i hi]
theorem lenX_unitCosts (i : Nat) (hi : i < 24) : lenX (95 + i) = 24 := by
  unfold lenX
  rw [if_neg (by omega)]; rw [if_neg (by omega)]; rw [if_neg (by omega)]; rw [if_neg (by omega)]; rw [if_neg (by omega)]; rw [if_neg (by omega)]; rw [if_neg (by omega)]; rw [if_neg (by omega)]; rw [if_neg (by omega)]; rw [if_neg (by omega)]; rw [if_neg (by omega)]; rw [if_neg (by omega)]; rw [if_neg (by omega)]; rw [if_pos (by omega)]
theorem tX_unitCosts (Z : ZT) (i : Nat) (hi : i < 24) : ∀ a b r, tX Z (95 + i) a b r = .inl (zc Z 0, 24, .inl a) := by
  intro a b r
  rw [tX_I Z _ (by omega), lenX_unitCosts i hi]
theorem lenX_sent (i : Nat) (hi : i < 24) : lenX (119 + i) = 24 := by
  unfold lenX
  rw [if_neg (by omega)]; rw [if_neg (by omega)]; rw [if_neg (by omega)]; rw [if_neg (by omega)]; rw [if_neg (by omega)]; rw [if_neg (by omega)]; rw [if_neg (by omega)]; rw [if_neg (by omega)]; rw [if_neg (by omega)]; rw [if_neg (by omega)]; rw [if_neg (by omega)]; rw [if_neg (by omega)]; rw [if_neg (by omega)]; rw [if_pos (by omega)]
theorem tX_sent (Z : ZT) (i : Nat) (hi : i < 24) : ∀ a b r, tX Z (119 + i) a b r = .inl (zc Z 0, 24, .inl a) := by
  intro a b r
  rw [tX_I Z _ (by omega), lenX_sent i hi]
theorem tX_follow (Z : ZT) (i : Nat) (hi : i < 2) : ∀ a b r, tX Z (144 + i) a b r = .inl (zc Z 1, 50, .inr (.inl b)) := by
  intro a b r
  unfold tX
  rw [if_neg (by omega)]; rw [if_neg (by omega)]; rw [if_pos (by omega)]
theorem tX_fitting (Z : ZT) (i : Nat) (hi : i < 2) : ∀ a b r, tX Z (146 + i) a b r = .inl (zc Z 1, 24, .inr (.inl b)) := by
  intro a b r
  unfold tX
  rw [if_neg (by omega)]; rw [if_neg (by omega)]; rw [if_neg (by omega)]; rw [if_pos (by omega)]
theorem tX_tunes (Z : ZT) : ∀ a b r, tX Z 148 a b r = .inl (zc Z 3, 8, .inr (.inr (.inr (.inr (fun j => if j < 8 then some (za Z (156 + j)) else none))))) := fun _ _ _ => rfl
theorem tX_levels (Z : ZT) : ∀ a b r, tX Z 149 a b r = .inl (zc Z 4, 9, .inr (.inr (.inr (.inr (fun j => if j < 9 then some (za Z (167 + j)) else none))))) := fun _ _ _ => rfl
theorem tX_cellsO (Z : ZT) : ∀ a b r, tX Z 150 a b r = .inl (zc Z 5, 25, .inr (.inr (.inr (.inr (fun j => if j < 25 then some (za Z (41 + j)) else none))))) := fun _ _ _ => rfl
theorem tX_pairsO (Z : ZT) : ∀ a b r, tX Z 151 a b r = .inl (zc Z 5, 24, .inr (.inr (.inr (.inr (fun j => if j < 24 then some (za Z (66 + j)) else none))))) := fun _ _ _ => rfl
theorem tX_valuesO (Z : ZT) : ∀ a b r, tX Z 152 a b r = .inl (zc Z 5, 5, .inr (.inr (.inr (.inr (fun j => if j < 5 then some (za Z (90 + j)) else none))))) := fun _ _ _ => rfl
theorem tX_unitCostsO (Z : ZT) : ∀ a b r, tX Z 153 a b r = .inl (zc Z 5, 24, .inr (.inr (.inr (.inr (fun j => if j < 24 then some (za Z (95 + j)) else none))))) := fun _ _ _ => rfl
theorem tX_sentO (Z : ZT) : ∀ a b r, tX Z 154 a b r = .inl (zc Z 5, 24, .inr (.inr (.inr (.inr (fun j => if j < 24 then some (za Z (119 + j)) else none))))) := fun _ _ _ => rfl
theorem tX_TuneSearch (Z : ZT) : ∀ a b r, tX Z 155 a b r = .inr (11, fX_TuneSearch Z 0 a b r) := fun _ _ _ => rfl
theorem tX_NoteRow (Z : ZT) (i : Nat) (hi : i < 9) : ∀ a b r, tX Z (156 + i) a b r = .inr (4, fX_NoteRow Z i a b r) := by
  intro a b r
  unfold tX
  rw [if_neg (by omega)]; rw [if_neg (by omega)]; rw [if_neg (by omega)]; rw [if_neg (by omega)]; rw [if_neg (by omega)]; rw [if_neg (by omega)]; rw [if_neg (by omega)]; rw [if_neg (by omega)]; rw [if_neg (by omega)]; rw [if_neg (by omega)]; rw [if_neg (by omega)]; rw [if_neg (by omega)]; rw [if_pos (by omega)]
  rw [Nat.add_sub_cancel_left]
theorem tX_Tape (Z : ZT) : ∀ a b r, tX Z 165 a b r = .inr (7, fX_Tape Z 0 a b r) := fun _ _ _ => rfl
theorem tX_WordReader (Z : ZT) : ∀ a b r, tX Z 166 a b r = .inr (10, fX_WordReader Z 0 a b r) := fun _ _ _ => rfl
theorem tX_Level (Z : ZT) (i : Nat) (hi : i < 9) : ∀ a b r, tX Z (167 + i) a b r = .inr (2, fX_Level Z i a b r) := by
  intro a b r
  unfold tX
  rw [if_neg (by omega)]; rw [if_neg (by omega)]; rw [if_neg (by omega)]; rw [if_neg (by omega)]; rw [if_neg (by omega)]; rw [if_neg (by omega)]; rw [if_neg (by omega)]; rw [if_neg (by omega)]; rw [if_neg (by omega)]; rw [if_neg (by omega)]; rw [if_neg (by omega)]; rw [if_neg (by omega)]; rw [if_neg (by omega)]; rw [if_neg (by omega)]; rw [if_neg (by omega)]; rw [if_pos (by omega)]
  rw [Nat.add_sub_cancel_left]
theorem tX_Part (Z : ZT) (i : Nat) (hi : i < 27) : ∀ a b r, tX Z (176 + i) a b r = .inr (5, fX_Part Z i a b r) := by
  intro a b r
  unfold tX
  rw [if_neg (by omega)]; rw [if_neg (by omega)]; rw [if_neg (by omega)]; rw [if_neg (by omega)]; rw [if_neg (by omega)]; rw [if_neg (by omega)]; rw [if_neg (by omega)]; rw [if_neg (by omega)]; rw [if_neg (by omega)]; rw [if_neg (by omega)]; rw [if_neg (by omega)]; rw [if_neg (by omega)]; rw [if_neg (by omega)]; rw [if_neg (by omega)]; rw [if_neg (by omega)]; rw [if_neg (by omega)]; rw [if_pos (by omega)]
  rw [Nat.add_sub_cancel_left]
theorem tX_Word (Z : ZT) (i : Nat) (hi : i < 2) : ∀ a b r, tX Z (203 + i) a b r = .inr (9, fX_Word Z i a b r) := by
  intro a b r
  unfold tX
  rw [if_neg (by omega)]; rw [if_neg (by omega)]; rw [if_neg (by omega)]; rw [if_neg (by omega)]; rw [if_neg (by omega)]; rw [if_neg (by omega)]; rw [if_neg (by omega)]; rw [if_neg (by omega)]; rw [if_neg (by omega)]; rw [if_neg (by omega)]; rw [if_neg (by omega)]; rw [if_neg (by omega)]; rw [if_neg (by omega)]; rw [if_neg (by omega)]; rw [if_neg (by omega)]; rw [if_neg (by omega)]; rw [if_neg (by omega)]; rw [if_pos (by omega)]
  rw [Nat.add_sub_cancel_left]
theorem tX_Signs (Z : ZT) : ∀ a b r, tX Z 205 a b r = .inr (6, fX_Signs Z 0 a b r) := fun _ _ _ => rfl
theorem tX_Ways (Z : ZT) : ∀ a b r, tX Z 206 a b r = .inr (8, fX_Ways Z 0 a b r) := fun _ _ _ => rfl
theorem tX_Finds (Z : ZT) : ∀ a b r, tX Z 207 a b r = .inr (1, fX_Finds Z 0 a b r) := fun _ _ _ => rfl
theorem tX_Load (Z : ZT) (i : Nat) (hi : i < 2) : ∀ a b r, tX Z (208 + i) a b r = .inr (3, fX_Load Z i a b r) := by
  intro a b r
  unfold tX
  rw [if_neg (by omega)]; rw [if_neg (by omega)]; rw [if_neg (by omega)]; rw [if_neg (by omega)]; rw [if_neg (by omega)]; rw [if_neg (by omega)]; rw [if_neg (by omega)]; rw [if_neg (by omega)]; rw [if_neg (by omega)]; rw [if_neg (by omega)]; rw [if_neg (by omega)]; rw [if_neg (by omega)]; rw [if_neg (by omega)]; rw [if_neg (by omega)]; rw [if_neg (by omega)]; rw [if_neg (by omega)]; rw [if_neg (by omega)]; rw [if_neg (by omega)]; rw [if_neg (by omega)]; rw [if_neg (by omega)]; rw [if_neg (by omega)]; rw [if_pos (by omega)]
  rw [Nat.add_sub_cancel_left]
theorem tX_Carrier (Z : ZT) : ∀ a b r, tX Z 210 a b r = .inr (0, fX_Carrier Z 0 a b r) := fun _ _ _ => rfl
theorem row_at {n b i : Nat} {Z : ZT} (h : i < n) : (fun j : Nat => if j < n then some (za Z (b + j)) else none) i = some (za Z (b + i)) := by
  show (if i < n then some (za Z (b + i)) else none) = _
  rw [if_pos h]
def fM_Model (Z : ZT) (i : Nat) : (Nat → Int32) → (Nat → Int64) → (Nat → Nat) → List Value := fun a b r => [.int (a 0), .ref (za Z 1), .ref (za Z 2), .ref (za Z 3), .int (a 4), .ref (za Z 4), .ref (za Z 5), .int (a 7), .int (a 8), .int (a 9), .int (a 10), .int (a 11), .int (a 12), .int (a 13), .int (a 14), .ref (za Z 6), .ref (za Z 7), .ref (za Z 8), .int (a 18), .int (a 19), .int (a 20), .int (a 21), .ref (za Z 9), .int (a 23), .ref (za Z 10), .int (a 25), .ref (za Z 11), .ref (za Z 12), .ref (za Z 13), .ref (za Z 14), .ref (za Z 15), .ref (za Z 16), .ref (za Z 17), .ref (za Z 18), .ref (za Z 19), .ref (za Z 20), .ref (za Z 21), .ref (za Z 22), .long (b 38), .ref (za Z 23), .int (a 40)]
def tM (Z : ZT) : TB := fun k a b r => match k with
  | 0 => .inr (12, fM_Model Z 0 a b r)
  | 1 => .inl (zc Z 0, 216, .inl a)
  | 2 => .inl (zc Z 0, 216, .inl a)
  | 3 => .inl (zc Z 0, 9, .inl a)
  | 4 => .inl (zc Z 0, 8, .inl a)
  | 5 => .inl (zc Z 2, 160, .inl a)
  | 6 => .inl (zc Z 0, 1000, .inl a)
  | 7 => .inl (zc Z 0, 1000, .inl a)
  | 8 => .inl (zc Z 0, 1000, .inl a)
  | 9 => .inl (zc Z 0, 24, .inl a)
  | 10 => .inl (zc Z 0, 1000, .inl a)
  | 11 => .inl (zc Z 0, 625, .inl a)
  | 12 => .inl (zc Z 0, 325, .inl a)
  | 13 => .inl (zc Z 0, 325, .inl a)
  | 14 => .inl (zc Z 0, 25, .inl a)
  | 15 => .inl (zc Z 0, 25, .inl a)
  | 16 => .inl (zc Z 0, 25, .inl a)
  | 17 => .inl (zc Z 0, 24, .inl a)
  | 18 => .inl (zc Z 0, 24, .inl a)
  | 19 => .inl (zc Z 0, 576, .inl a)
  | 20 => .inl (zc Z 1, 576, .inr (.inl b))
  | 21 => .inl (zc Z 1, 48, .inr (.inl b))
  | 22 => .inl (zc Z 0, 48, .inl a)
  | 23 => .inl (zc Z 0, 8, .inl a)
  | _ => .inr (12, [])
theorem tM_0 (Z : ZT) : ∀ a b r, tM Z 0 a b r = .inr (12, fM_Model Z 0 a b r) := fun _ _ _ => rfl
theorem tM_1 (Z : ZT) : ∀ a b r, tM Z 1 a b r = .inl (zc Z 0, 216, .inl a) := fun _ _ _ => rfl
theorem tM_2 (Z : ZT) : ∀ a b r, tM Z 2 a b r = .inl (zc Z 0, 216, .inl a) := fun _ _ _ => rfl
theorem tM_3 (Z : ZT) : ∀ a b r, tM Z 3 a b r = .inl (zc Z 0, 9, .inl a) := fun _ _ _ => rfl
theorem tM_4 (Z : ZT) : ∀ a b r, tM Z 4 a b r = .inl (zc Z 0, 8, .inl a) := fun _ _ _ => rfl
theorem tM_5 (Z : ZT) : ∀ a b r, tM Z 5 a b r = .inl (zc Z 2, 160, .inl a) := fun _ _ _ => rfl
theorem tM_6 (Z : ZT) : ∀ a b r, tM Z 6 a b r = .inl (zc Z 0, 1000, .inl a) := fun _ _ _ => rfl
theorem tM_7 (Z : ZT) : ∀ a b r, tM Z 7 a b r = .inl (zc Z 0, 1000, .inl a) := fun _ _ _ => rfl
theorem tM_8 (Z : ZT) : ∀ a b r, tM Z 8 a b r = .inl (zc Z 0, 1000, .inl a) := fun _ _ _ => rfl
theorem tM_9 (Z : ZT) : ∀ a b r, tM Z 9 a b r = .inl (zc Z 0, 24, .inl a) := fun _ _ _ => rfl
theorem tM_10 (Z : ZT) : ∀ a b r, tM Z 10 a b r = .inl (zc Z 0, 1000, .inl a) := fun _ _ _ => rfl
theorem tM_11 (Z : ZT) : ∀ a b r, tM Z 11 a b r = .inl (zc Z 0, 625, .inl a) := fun _ _ _ => rfl
theorem tM_12 (Z : ZT) : ∀ a b r, tM Z 12 a b r = .inl (zc Z 0, 325, .inl a) := fun _ _ _ => rfl
theorem tM_13 (Z : ZT) : ∀ a b r, tM Z 13 a b r = .inl (zc Z 0, 325, .inl a) := fun _ _ _ => rfl
theorem tM_14 (Z : ZT) : ∀ a b r, tM Z 14 a b r = .inl (zc Z 0, 25, .inl a) := fun _ _ _ => rfl
theorem tM_15 (Z : ZT) : ∀ a b r, tM Z 15 a b r = .inl (zc Z 0, 25, .inl a) := fun _ _ _ => rfl
theorem tM_16 (Z : ZT) : ∀ a b r, tM Z 16 a b r = .inl (zc Z 0, 25, .inl a) := fun _ _ _ => rfl
theorem tM_17 (Z : ZT) : ∀ a b r, tM Z 17 a b r = .inl (zc Z 0, 24, .inl a) := fun _ _ _ => rfl
theorem tM_18 (Z : ZT) : ∀ a b r, tM Z 18 a b r = .inl (zc Z 0, 24, .inl a) := fun _ _ _ => rfl
theorem tM_19 (Z : ZT) : ∀ a b r, tM Z 19 a b r = .inl (zc Z 0, 576, .inl a) := fun _ _ _ => rfl
theorem tM_20 (Z : ZT) : ∀ a b r, tM Z 20 a b r = .inl (zc Z 1, 576, .inr (.inl b)) := fun _ _ _ => rfl
theorem tM_21 (Z : ZT) : ∀ a b r, tM Z 21 a b r = .inl (zc Z 1, 48, .inr (.inl b)) := fun _ _ _ => rfl
theorem tM_22 (Z : ZT) : ∀ a b r, tM Z 22 a b r = .inl (zc Z 0, 48, .inl a) := fun _ _ _ => rfl
theorem tM_23 (Z : ZT) : ∀ a b r, tM Z 23 a b r = .inl (zc Z 0, 8, .inl a) := fun _ _ _ => rfl
/-- the fuel of a loop's mirror -/
def FV : Nat := 1000000000000000000000000000000
def cpB (sp dp k : Int32) (n0 n1 : Nat) : Bool := decide (¬ sp < 0 ∧ ¬ dp < 0 ∧ ¬ k < 0 ∧ sp.toNatClampNeg + k.toNatClampNeg ≤ n0 ∧ dp.toNatClampNeg + k.toNatClampNeg ≤ n1)
theorem cpB_e {sp dp k : Int32} {n0 n1 : Nat} (h : cpB sp dp k n0 n1 = true) : ¬ sp < 0 ∧ ¬ dp < 0 ∧ ¬ k < 0 ∧ sp.toNatClampNeg + k.toNatClampNeg ≤ n0 ∧ dp.toNatClampNeg + k.toNatClampNeg ≤ n1 := of_decide_eq_true h
section WC
variable {p : Program} {l : Launch} {e : Env} {R : Room} {s : State} {m : MethodId} {args : Array Value} {below : List Frame} {meth : Method} {c : Code} {H : Heap} {locs : List Loc} {cells slots : Nat} {Q : State → Prop}
variable {cc : ByteArray} {pc : Nat} {ls : Array Slot} {rest : List Value} {D : va_G} {cl : List vw_C} {n : Nat} {ad : Nat → Nat} {t : TB} {σ : SG} {tys : List (ClassId × FieldType)} {H0 : Heap}
theorem wr_copyi (hx : p.tables.exec = Jvm.exec) (hb : c.code = cc) (hml : c.maxLocals = ls.size) {own : String} {index : Nat} (hown : s.vm.findClass own = some m.cls) (hlink : (Cond.methodLink own index arraycopyName).before args s = true) (hnat : (Cond.native arraycopyName).before args s = true) (hstat : (Cond.static arraycopyName).before args s = true) (hini : (Cond.initialized "java/lang/System").before args s = true)
    (hK : va_K D cl tys s) (hP : ws_P D cl n ad t σ H) (hJ : ws_J n ad) (hS : va_S (ws_A n ad) H0 H locs) {k0 k1 : Nat} (hk0 : k0 < n) (hk1 : k1 < n) (t0 : Nat) {cA : ClassId} {N0 N1 : Nat} (hc0 : t k0 (σ.1 k0) (σ.2.1 k0) (σ.2.2 k0) = .inl (cA, N0, .inl (σ.1 k0))) (hc1 : ∀ a b r, t k1 a b r = .inl (cA, N1, .inl a)) (ht : tys[t0]? = some (cA, .int))
    {sp dp nn : Int32} (hin : cpB sp dp nn N0 N1 = true) (hframes : 1 ≤ R.frames) (hlocals : (rest.map fun v => v.category).sum + (nativeFrameWords "java/lang/System" "arraycopy" 5 + 11) ≤ R.locals) (hdg : decode cc pc = .ok (.invokestatic index, 3))
    (kk : ∀ (H1 : Heap) (locs1 : List Loc), ws_P D cl n ad t (sA σ k1 (va_cpy (σ.1 k0) (σ.1 k1) sp.toNatClampNeg dp.toNatClampNeg nn.toNatClampNeg)) H1 → va_S (ws_A n ad) H0 H1 locs1 → W p l e R s m args below meth c H1 locs1 cells slots Q (F0 m (pc + 3) ls rest)) :
    W p l e R s m args below meth c H locs cells slots Q (F0 m pc ls (.int nn :: .int dp :: .ref (ad k1) :: .int sp :: .ref (ad k0) :: rest)) := by
  obtain ⟨h1, h2, h3, h4, h5⟩ := cpB_e hin
  refine va_copyi hx hb hml hown hlink hnat hstat hini hK hP (ws_D hJ) hS k0 k1 t0 t0 (f := σ.1 k0) (g := σ.1 k1) (by rw [ws_get hk0]; exact congrArg (fun z => some (ad k0, z)) hc0) (by rw [ws_get hk1]; exact congrArg (fun z => some (ad k1, z)) (hc1 _ _ _)) ht ht rfl h1 h2 h3 h4 h5 (fun _ _ => rfl) hframes hlocals hdg (fun H1 locs1 g1 _ g3 => kk H1 locs1 ?_ g3)
  rw [ws_set, ← hc1 (va_cpy (σ.1 k0) (σ.1 k1) sp.toNatClampNeg dp.toNatClampNeg nn.toNatClampNeg) (σ.2.1 k1) (σ.2.2 k1), ws_upI] at g1
  exact g1
end WC
/-- the room of methods that call each other, at the depth d -/
abbrev rmq (i d : Nat) : Room := { frames := 20 * d + i, cells := 0, slots := 0, locals := 600 * d + 30 * i }
abbrev rmb (i d : Nat) : Room := { frames := 2 * d + i, cells := 0, slots := 0, locals := 60 * d + 30 * i }
/-- facts of the heap outside a world, which nothing in the world can change -/
abbrev EF : Type := (Nat → Prop) → State → Heap → Prop
def eOK (E : EF) : Prop := ∀ (A : Nat → Prop) (u U : State) (H H1 : Heap), u.WarmedH U.vm → (∀ a : Nat, a < H.size → ¬ A a → H1[a]? = H[a]?) → E A u H → E A U H1
/-- a method's world, with such facts -/
def wx (E : EF) (D : va_G) (cl : List vw_C) (n : Nat) (ad : Nat → Nat) (t : TB) (tys : List (ClassId × FieldType)) (σ : SG) (U : State) : Prop := (eOK E ∧ E (ws_A n ad) U U.heap) ∧ ws_J n ad ∧ ws_P D cl n ad t σ U.heap ∧ va_K D cl tys U
theorem wx_blind {E : EF} {D : va_G} {cl : List vw_C} {n : Nat} {ad : Nat → Nat} {t : TB} {tys : List (ClassId × FieldType)} {σ : SG} {av : List Value} : FrameBlind (va_Pc av (wx E D cl n ad t tys σ)) := fun a U g mk q => ⟨q.1, ⟨q.2.1.1, q.2.1.1 _ U (U.calling g mk a) _ _ (State.WarmedH.refl U) (fun _ _ _ => rfl) q.2.1.2⟩, q.2.2.1, q.2.2.2.1, va_K.moved (u := U) (U := U.calling g mk a) (Vm.Alike.refl U.vm) q.2.2.2.2⟩
theorem wx_at {E : EF} {D : va_G} {cl : List vw_C} {n : Nat} {ad : Nat → Nat} {t : TB} {tys : List (ClassId × FieldType)} {σ : SG} {s U : State} {H : Heap} {locs : List Loc} (hE : eOK E ∧ E (ws_A n ad) s s.heap) (hJ : ws_J n ad) (hP : ws_P D cl n ad t σ H) (hK : va_K D cl tys s) (hS : va_S (ws_A n ad) s.heap H locs) (hU : U.heap = H) (hW : s.WarmedH U.vm) : wx E D cl n ad t tys σ U :=
  ⟨⟨hE.1, hE.1 _ s U _ _ hW (fun a h1 h2 => by rw [hU]; exact hS.2.1 a h1 h2) hE.2⟩, hJ, by rw [hU]; exact hP, va_K.moved hW.alike hK⟩
def cy (p : Program) (s : State) (m : MethodId) (args : Array Value) (meth : Method) (c : Code) (cc : ByteArray) (ret : Option FieldType) (maxL : Nat) (own : String) (Ts : List Cond) (E : EF) (D : va_G) (cl : List vw_C) (n : Nat) (ad : Nat → Nat) (tys : List (ClassId × FieldType)) : Prop :=
  p.tables.exec = Jvm.exec ∧ c.code = cc ∧ meth.sig.returnType = ret ∧ meth.locks = false ∧ c.maxLocals = maxL ∧ s.vm.findClass own = some m.cls ∧ (∀ w ∈ Ts, w.before args s = true) ∧ (eOK E ∧ E (ws_A n ad) s s.heap) ∧ ws_J n ad ∧ va_K D cl tys s
section XQ
variable {p : Program} {l : Launch} {e : Env} {R : Room} {s : State} {m : MethodId} {args : Array Value} {below : List Frame} {meth : Method} {c : Code} {H : Heap} {locs : List Loc} {cells slots : Nat} {Q : State → Prop}
variable {cc : ByteArray} {pc : Nat} {ls : Array Slot} {rest st0 : List Value} {E : EF} {D : va_G} {cl : List vw_C} {n : Nat} {ad : Nat → Nat} {t : TB} {σ : SG} {tys : List (ClassId × FieldType)} {H0 : Heap} {a : Array Value}
abbrev xQi (E : EF) (D : va_G) (cl : List vw_C) (n : Nat) (ad : Nat → Nat) (t : TB) (tys : List (ClassId × FieldType)) (res : Int32 × SG) : Array Value → State → Outcome → State → Prop := va_Qi (fun r σ' => r = res.1 ∧ σ' = res.2) (wx E D cl n ad t tys) (ws_A n ad)
abbrev xQl (E : EF) (D : va_G) (cl : List vw_C) (n : Nat) (ad : Nat → Nat) (t : TB) (tys : List (ClassId × FieldType)) (res : Int64 × SG) : Array Value → State → Outcome → State → Prop := va_Ql (fun r σ' => r = res.1 ∧ σ' = res.2) (wx E D cl n ad t tys) (ws_A n ad)
abbrev xQv (E : EF) (D : va_G) (cl : List vw_C) (n : Nat) (ad : Nat → Nat) (t : TB) (tys : List (ClassId × FieldType)) (res : Unit × SG) : Array Value → State → Outcome → State → Prop := va_Qv (fun σ' => σ' = res.2) (wx E D cl n ad t tys) (ws_A n ad)
theorem xr_iret (hx : p.tables.exec = Jvm.exec) (hb : c.code = cc) (hr : meth.sig.returnType = some .int) (hlocks : meth.locks = false) (hE : eOK E ∧ E (ws_A n ad) s s.heap) (hJ : ws_J n ad) (hK : va_K D cl tys s) (hP : ws_P D cl n ad t σ H) (hS : va_S (ws_A n ad) s.heap H locs) {v : Int32} {res : Int32 × SG} (h : some (v, σ) = some res) (hdg : decode cc pc = .ok (.ireturn, 1)) :
    W p l e R s m args below meth c H locs cells slots (MQ below (xQi E D cl n ad t tys res) args s cells slots (ws_A n ad)) (F0 m pc ls [.int v]) := by
  obtain rfl := Option.some.inj h
  exact W.iret (v := v) hx hb hr (fun t ht hW => ⟨⟨v, σ, rfl, ⟨rfl, rfl⟩, wx_at hE hJ hP hK hS ht hW⟩, hS.F ht⟩) hS.2.2 hdg
theorem xr_zret (hx : p.tables.exec = Jvm.exec) (hb : c.code = cc) {ty : FieldType} (hr : meth.sig.returnType = some ty) (hlocks : meth.locks = false) (hE : eOK E ∧ E (ws_A n ad) s s.heap) (hJ : ws_J n ad) (hK : va_K D cl tys s) (hP : ws_P D cl n ad t σ H) (hS : va_S (ws_A n ad) s.heap H locs) {v : Int32} (hn : narrow ty (.int v) = .int v) {res : Int32 × SG} (h : some (v, σ) = some res) (hdg : decode cc pc = .ok (.ireturn, 1)) :
    W p l e R s m args below meth c H locs cells slots (MQ below (xQi E D cl n ad t tys res) args s cells slots (ws_A n ad)) (F0 m pc ls [.int v]) := by
  obtain rfl := Option.some.inj h
  exact W.zret (v := v) hx hb hr hn (fun t ht hW => ⟨⟨v, σ, rfl, ⟨rfl, rfl⟩, wx_at hE hJ hP hK hS ht hW⟩, hS.F ht⟩) hS.2.2 hdg
theorem xr_lret (hx : p.tables.exec = Jvm.exec) (hb : c.code = cc) (hr : meth.sig.returnType = some .long) (hlocks : meth.locks = false) (hE : eOK E ∧ E (ws_A n ad) s s.heap) (hJ : ws_J n ad) (hK : va_K D cl tys s) (hP : ws_P D cl n ad t σ H) (hS : va_S (ws_A n ad) s.heap H locs) {v : Int64} {res : Int64 × SG} (h : some (v, σ) = some res) (hdg : decode cc pc = .ok (.lreturn, 1)) :
    W p l e R s m args below meth c H locs cells slots (MQ below (xQl E D cl n ad t tys res) args s cells slots (ws_A n ad)) (F0 m pc ls [.long v]) := by
  obtain rfl := Option.some.inj h
  exact W.lret (v := v) hx hb hr (fun t ht hW => ⟨⟨v, σ, rfl, ⟨rfl, rfl⟩, wx_at hE hJ hP hK hS ht hW⟩, hS.F ht⟩) hS.2.2 hdg
theorem xr_vret (hx : p.tables.exec = Jvm.exec) (hb : c.code = cc) (hr : meth.sig.returnType = none) (hlocks : meth.locks = false) (hE : eOK E ∧ E (ws_A n ad) s s.heap) (hJ : ws_J n ad) (hK : va_K D cl tys s) (hP : ws_P D cl n ad t σ H) (hS : va_S (ws_A n ad) s.heap H locs) {res : Unit × SG} (h : some ((), σ) = some res) (hdg : decode cc pc = .ok (.return_, 1)) :
    W p l e R s m args below meth c H locs cells slots (MQ below (xQv E D cl n ad t tys res) args s cells slots (ws_A n ad)) (F0 m pc ls []) := by
  obtain rfl := Option.some.inj h
  exact W.vret hx hb hr (fun t ht hW => ⟨⟨σ, rfl, rfl, wx_at hE hJ hP hK hS ht hW⟩, hS.F ht⟩) hS.2.2 hdg
theorem xr_calli {res : Int32 × SG} (hr : va_Run p l e R s m args below meth c H locs cells slots 0 0 (F0 m pc ls st0) rest (xQi E D cl n ad t tys res a) (ws_A n ad)) (hS : va_S (ws_A n ad) H0 H locs)
    (kk : ∀ (H1 : Heap) (locs1 : List Loc), ws_P D cl n ad t res.2 H1 → va_S (ws_A n ad) H0 H1 locs1 → W p l e R s m args below meth c H1 locs1 cells slots Q (F0 m (pc + 3) ls (.int res.1 :: rest))) : W p l e R s m args below meth c H locs cells slots Q (F0 m pc ls st0) :=
  va_calli hr hS (fun q _ h => h) (fun q h => h) (fun r u t H1 locs1 ht hvm hw hB hz1 hk1 hS => by
    obtain ⟨rfl, rfl⟩ := hw
    have hP1 := hB.2.2.1
    rw [ht] at hP1
    exact kk H1 locs1 hP1 hS)
theorem xr_calll {res : Int64 × SG} (hr : va_Run p l e R s m args below meth c H locs cells slots 0 0 (F0 m pc ls st0) rest (xQl E D cl n ad t tys res a) (ws_A n ad)) (hS : va_S (ws_A n ad) H0 H locs)
    (kk : ∀ (H1 : Heap) (locs1 : List Loc), ws_P D cl n ad t res.2 H1 → va_S (ws_A n ad) H0 H1 locs1 → W p l e R s m args below meth c H1 locs1 cells slots Q (F0 m (pc + 3) ls (.long res.1 :: rest))) : W p l e R s m args below meth c H locs cells slots Q (F0 m pc ls st0) :=
  va_calll hr hS (fun q _ h => h) (fun q h => h) (fun r u t H1 locs1 ht hvm hw hB hz1 hk1 hS => by
    obtain ⟨rfl, rfl⟩ := hw
    have hP1 := hB.2.2.1
    rw [ht] at hP1
    exact kk H1 locs1 hP1 hS)
theorem xr_callv {res : Unit × SG} (hr : va_Run p l e R s m args below meth c H locs cells slots 0 0 (F0 m pc ls st0) rest (xQv E D cl n ad t tys res a) (ws_A n ad)) (hS : va_S (ws_A n ad) H0 H locs)
    (kk : ∀ (H1 : Heap) (locs1 : List Loc), ws_P D cl n ad t res.2 H1 → va_S (ws_A n ad) H0 H1 locs1 → W p l e R s m args below meth c H1 locs1 cells slots Q (F0 m (pc + 3) ls rest)) : W p l e R s m args below meth c H locs cells slots Q (F0 m pc ls st0) :=
  va_callv hr hS (fun q _ h => h) (fun q h => h) (fun u t H1 locs1 ht hvm hw hB hz1 hk1 hS => by
    obtain rfl := hw
    have hP1 := hB.2.2.1
    rw [ht] at hP1
    exact kk H1 locs1 hP1 hS)
end XQ
/-- the bytes of the model's text of marks, and what is known of that text -/
def sbyt (j : Nat) : Int32 := ([46, 114, 91, 44, 93, 40, 41, 124, 42, 43, 63] : List Int32).getD j 0
def EM (Z : ZT) : EF := fun A U H => vk_R RX12 119 ".r[,]()|*+?" (za Z 1000) U ∧ vk_S 1 [11] [[46, 114, 91, 44, 93, 40, 41, 124, 42, 43, 63]] (fun _ => za Z 1000) (fun _ => za Z 1001) A U H ∧ va_Z "java/lang/String" "COMPACT_STRINGS" "Z" (.int 1) A U H
theorem EM_ok (Z : ZT) : eOK (EM Z) := fun A u U H H1 hW hk h => ⟨h.1.warm hW, (h.2.1.moved hW.alike).kept hk, (h.2.2.moved hW.alike).kept hk⟩
