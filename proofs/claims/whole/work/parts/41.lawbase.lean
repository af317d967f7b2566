/-! ===== the law: its world is the class's, the model's, and the row 'out' ===== -/
theorem ka_prim {args : Array Value} {s : State} {ty : FieldType} (h : (Cond.arrayClass ty).before args s = true) : ∃ cA : ClassId, ArrOfT s cA ty ∧ s.vm.findClass ("[" ++ ty.toString) = some cA := by
  obtain ⟨cA, kA, comp, h1, h2, h3⟩ := Cond.arrayClass_spec h
  exact ⟨cA, fun n z => ⟨fun k h => (by cases h), kA, h2, comp, h3⟩, h1⟩
theorem ka_obj {args : Array Value} {s : State} {C : String} (h : (Cond.arrayOver (.object C)).before args s = true) : ∃ cA : ClassId, ArrOfT s cA (.object C) ∧ va_RA s cA (.object C) := by
  obtain ⟨comp, cA, kA, h1, -, h2, h3, h4⟩ := Cond.arrayOver_spec h
  exact ⟨cA, fun n z => ⟨fun k h => (by cases h), kA, h2, comp, h3⟩, kA, comp, h2, h3, h1, h4⟩
theorem ka_arr {args : Array Value} {s : State} {t : FieldType} (h : (Cond.arrayOver (.array t)).before args s = true) : ∃ cA : ClassId, ArrOfT s cA (.array t) ∧ va_RA s cA (.array t) := by
  obtain ⟨comp, cA, kA, h1, -, h2, h3, h4⟩ := arrayOverA_spec h
  exact ⟨cA, fun n z => ⟨fun k h => (by cases h), kA, h2, comp, h3⟩, h4⟩
abbrev lA (s : State) : Nat → Prop := fun q => s.heap.size ≤ q
def LI (Zx Zm : ZT) (o : Nat) (s : State) (σx σm : SG) (f : Nat → Int64) (H : Heap) (locs : List Loc) : Prop := ws_P (zD Zx) vwCl 211 (za Zx) (tX Zx) σx H ∧ ws_P (zD Zm) vwCl 24 (za Zm) (tM Zm) σm H ∧ va_at (zD Zx) vwCl (o, .inl (zc Zx 1, 1, .inr (.inl f))) H ∧ va_S (lA s) s.heap H locs
/-- what stays: where the cells lie, what the tables say -/
def LZ (Zx Zm : ZT) (o : Nat) (s : State) : Prop := ws_J 211 (za Zx) ∧ ws_J 24 (za Zm) ∧ va_K (zD Zx) vwCl (tysX Zx) s ∧ va_K (zD Zm) vwCl (tysM Zm) s ∧ (eOK (EX Zx) ∧ EX Zx (ws_A 211 (za Zx)) s s.heap) ∧ (eOK (EM Zm) ∧ EM Zm (ws_A 24 (za Zm)) s s.heap) ∧ (∀ k j, k < 211 → j < 24 → za Zx k ≠ za Zm j) ∧ (∀ k, k < 211 → za Zx k ≠ o) ∧ (∀ j, j < 24 → za Zm j ≠ o) ∧ (∀ k, k < 211 → s.heap.size ≤ za Zx k) ∧ (∀ j, j < 24 → s.heap.size ≤ za Zm j) ∧ s.heap.size ≤ o
theorem wl_at {E : EF} {D : va_G} {cl : List vw_C} {n : Nat} {ad : Nat → Nat} {t : TB} {tys : List (ClassId × FieldType)} {σ : SG} {s U : State} {H : Heap} {locs : List Loc} (hE : eOK E ∧ E (ws_A n ad) s s.heap) (hJ : ws_J n ad) (hP : ws_P D cl n ad t σ H) (hK : va_K D cl tys s) (hS : va_S (lA s) s.heap H locs) (hU : U.heap = H) (hW : s.WarmedH U.vm) : wx E D cl n ad t tys σ U :=
  ⟨⟨hE.1, hE.1 _ s U _ _ hW (fun a h1 h2 => by rw [hU]; exact hS.2.1 a h1 (Nat.not_le.mpr h1)) hE.2⟩, hJ, by rw [hU]; exact hP, va_K.moved hW.alike hK⟩
theorem LI_x {Zx Zm : ZT} {o : Nat} {s : State} {σx σx1 σm : SG} {f : Nat → Int64} {H H1 : Heap} {locs locs1 : List Loc} (hZ : LZ Zx Zm o s) (hI : LI Zx Zm o s σx σm f H locs) (hP : ws_P (zD Zx) vwCl 211 (za Zx) (tX Zx) σx1 H1) (hk : ∀ q : Nat, q < H.size → ¬ ws_A 211 (za Zx) q → H1[q]? = H[q]?) (hS : va_S (lA s) s.heap H1 locs1) : LI Zx Zm o s σx1 σm f H1 locs1 := by
  obtain ⟨-, -, -, -, -, -, z1, z2, z3, -⟩ := hZ
  refine ⟨hP, ws_keep hI.2.1 (fun j hj => hk _ ((hI.2.1 j _ (ws_get hj)).lt) (fun ⟨k, h1, h2⟩ => z1 k j h1 hj h2.symm)), hI.2.2.1.kept (hk o hI.2.2.1.lt (fun ⟨k, h1, h2⟩ => z2 k h1 h2.symm)), hS⟩
theorem LI_m {Zx Zm : ZT} {o : Nat} {s : State} {σx σm σm1 : SG} {f : Nat → Int64} {H H1 : Heap} {locs locs1 : List Loc} (hZ : LZ Zx Zm o s) (hI : LI Zx Zm o s σx σm f H locs) (hP : ws_P (zD Zm) vwCl 24 (za Zm) (tM Zm) σm1 H1) (hk : ∀ q : Nat, q < H.size → ¬ ws_A 24 (za Zm) q → H1[q]? = H[q]?) (hS : va_S (lA s) s.heap H1 locs1) : LI Zx Zm o s σx σm1 f H1 locs1 := by
  obtain ⟨-, -, -, -, -, -, z1, z2, z3, -⟩ := hZ
  refine ⟨ws_keep hI.1 (fun k hk1 => hk _ ((hI.1 k _ (ws_get hk1)).lt) (fun ⟨j, h1, h2⟩ => z1 k j hk1 h1 h2)), hP, hI.2.2.1.kept (hk o hI.2.2.1.lt (fun ⟨j, h1, h2⟩ => z3 j h1 h2.symm)), hS⟩
section LR
variable {p : Program} {l : Launch} {e : Env} {R : Room} {s : State} {m : MethodId} {args : Array Value} {below : List Frame} {meth : Method} {c : Code} {H : Heap} {locs : List Loc} {cells slots : Nat} {Q : State → Prop}
variable {cc : ByteArray} {pc : Nat} {ls : Array Slot} {rest st0 : List Value} {E : EF} {a : Array Value} {Zx Zm : ZT} {o : Nat} {σx σm : SG} {f : Nat → Int64}
theorem lr_xi {res : Int32 × SG} (hZ : LZ Zx Zm o s) (hI : LI Zx Zm o s σx σm f H locs) (hr : va_Run p l e R s m args below meth c H locs cells slots 0 0 (F0 m pc ls st0) rest (xQi E (zD Zx) vwCl 211 (za Zx) (tX Zx) (tysX Zx) res a) (ws_A 211 (za Zx)))
    (kk : ∀ (H1 : Heap) (locs1 : List Loc), LI Zx Zm o s res.2 σm f H1 locs1 → W p l e R s m args below meth c H1 locs1 cells slots Q (F0 m (pc + 3) ls (.int res.1 :: rest))) : W p l e R s m args below meth c H locs cells slots Q (F0 m pc ls st0) :=
  va_calli hr hI.2.2.2 (fun q _ ⟨k, h1, h2⟩ => by rw [h2]; exact hZ.2.2.2.2.2.2.2.2.2.1 k h1) (fun q ⟨k, h1, h2⟩ => by rw [h2]; exact hZ.2.2.2.2.2.2.2.2.2.1 k h1) (fun r u t H1 locs1 ht hvm hw hB hz1 hk1 hS => by
    obtain ⟨rfl, rfl⟩ := hw
    have hP1 := hB.2.2.1
    rw [ht] at hP1
    exact kk H1 locs1 (LI_x hZ hI hP1 hk1 hS))
theorem lr_xl {res : Int64 × SG} (hZ : LZ Zx Zm o s) (hI : LI Zx Zm o s σx σm f H locs) (hr : va_Run p l e R s m args below meth c H locs cells slots 0 0 (F0 m pc ls st0) rest (xQl E (zD Zx) vwCl 211 (za Zx) (tX Zx) (tysX Zx) res a) (ws_A 211 (za Zx)))
    (kk : ∀ (H1 : Heap) (locs1 : List Loc), LI Zx Zm o s res.2 σm f H1 locs1 → W p l e R s m args below meth c H1 locs1 cells slots Q (F0 m (pc + 3) ls (.long res.1 :: rest))) : W p l e R s m args below meth c H locs cells slots Q (F0 m pc ls st0) :=
  va_calll hr hI.2.2.2 (fun q _ ⟨k, h1, h2⟩ => by rw [h2]; exact hZ.2.2.2.2.2.2.2.2.2.1 k h1) (fun q ⟨k, h1, h2⟩ => by rw [h2]; exact hZ.2.2.2.2.2.2.2.2.2.1 k h1) (fun r u t H1 locs1 ht hvm hw hB hz1 hk1 hS => by
    obtain ⟨rfl, rfl⟩ := hw
    have hP1 := hB.2.2.1
    rw [ht] at hP1
    exact kk H1 locs1 (LI_x hZ hI hP1 hk1 hS))
theorem lr_mi {res : Int32 × SG} (hZ : LZ Zx Zm o s) (hI : LI Zx Zm o s σx σm f H locs) (hr : va_Run p l e R s m args below meth c H locs cells slots 0 0 (F0 m pc ls st0) rest (xQi E (zD Zm) vwCl 24 (za Zm) (tM Zm) (tysM Zm) res a) (ws_A 24 (za Zm)))
    (kk : ∀ (H1 : Heap) (locs1 : List Loc), LI Zx Zm o s σx res.2 f H1 locs1 → W p l e R s m args below meth c H1 locs1 cells slots Q (F0 m (pc + 3) ls (.int res.1 :: rest))) : W p l e R s m args below meth c H locs cells slots Q (F0 m pc ls st0) :=
  va_calli hr hI.2.2.2 (fun q _ ⟨k, h1, h2⟩ => by rw [h2]; exact hZ.2.2.2.2.2.2.2.2.2.2.1 k h1) (fun q ⟨k, h1, h2⟩ => by rw [h2]; exact hZ.2.2.2.2.2.2.2.2.2.2.1 k h1) (fun r u t H1 locs1 ht hvm hw hB hz1 hk1 hS => by
    obtain ⟨rfl, rfl⟩ := hw
    have hP1 := hB.2.2.1
    rw [ht] at hP1
    exact kk H1 locs1 (LI_m hZ hI hP1 hk1 hS))
theorem lr_ml {res : Int64 × SG} (hZ : LZ Zx Zm o s) (hI : LI Zx Zm o s σx σm f H locs) (hr : va_Run p l e R s m args below meth c H locs cells slots 0 0 (F0 m pc ls st0) rest (xQl E (zD Zm) vwCl 24 (za Zm) (tM Zm) (tysM Zm) res a) (ws_A 24 (za Zm)))
    (kk : ∀ (H1 : Heap) (locs1 : List Loc), LI Zx Zm o s σx res.2 f H1 locs1 → W p l e R s m args below meth c H1 locs1 cells slots Q (F0 m (pc + 3) ls (.long res.1 :: rest))) : W p l e R s m args below meth c H locs cells slots Q (F0 m pc ls st0) :=
  va_calll hr hI.2.2.2 (fun q _ ⟨k, h1, h2⟩ => by rw [h2]; exact hZ.2.2.2.2.2.2.2.2.2.2.1 k h1) (fun q ⟨k, h1, h2⟩ => by rw [h2]; exact hZ.2.2.2.2.2.2.2.2.2.2.1 k h1) (fun r u t H1 locs1 ht hvm hw hB hz1 hk1 hS => by
    obtain ⟨rfl, rfl⟩ := hw
    have hP1 := hB.2.2.1
    rw [ht] at hP1
    exact kk H1 locs1 (LI_m hZ hI hP1 hk1 hS))
end LR
