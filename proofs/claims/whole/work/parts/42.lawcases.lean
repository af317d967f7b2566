def LC (p : Program) (l : Launch) (s : State) (m : MethodId) (meth : Method) (c : Code) (b L : Nat) (xs : Nat → Int32) : Prop :=
  p.tables.exec = Jvm.exec ∧ c.code = cL_law ∧ meth.sig.returnType = some .boolean ∧ c.maxLocals = 8 ∧ s.vm.findClass RL = some m.cls ∧ (∀ w ∈ wsL_law, w.before #[Value.ref b] s = true) ∧ va_X b L xs s s.heap ∧ b < s.heap.size ∧ meth.locks = false ∧ l.stackTraces = false
theorem lg_cmp_r (r : Int64) : lg_cmp r r = 0 := by simp [lg_cmp]
theorem wm_47 : Cond.constantLong RL 47 4294967295 ∈ wsL_law := by decide +kernel
set_option maxHeartbeats 4000000 in
set_option maxRecDepth 100000 in
theorem lc_0 {p : Program} {l : Launch} {e : Env} {s : State} {m : MethodId} {below : List Frame} {meth : Method} {c : Code} {b L i o : Nat} {xs : Nat → Int32} {Zx Zm : ZT} {x4 : Int32} {σx σm : SG} {f : Nat → Int64} {H : Heap} {locs : List Loc} {cells slots : Nat} {Q : State → Prop} {ls : Array Slot} (C : LC p l s m meth c b L xs) (hZ : LZ Zx Zm o s) (hi : i + 4 ≤ L) (hL : L ≤ 2048) (ex4 : x4 = nI i) (hI : LI Zx Zm o s σx σm f H locs) (hcc : cells ≤ 600000) (hss : slots ≤ 7000000) (hl : lv_has ls 8 [(0, .ref b), (1, .ref (za Zx 155)), (2, .ref (za Zm 0)), (3, .ref o), (4, .int x4)]) {r : Int32} {σx' σm' : SG} (hm0 : m_X11_tune σx  = some (r, σx')) (hm1 : m_X12_tune σm  = some (r, σm')) (kk : ∀ (H : Heap) (locs : List Loc) (ls : Array Slot), LI Zx Zm o s σx' σm' f H locs → lv_has ls 8 [(0, .ref b), (1, .ref (za Zx 155)), (2, .ref (za Zm 0)), (3, .ref o), (4, .int x4)] → W p l e room_1 s m #[Value.ref b] below meth c H locs cells slots Q (F0 m 723 ls [])) : W p l e room_1 s m #[Value.ref b] below meth c H locs cells slots Q (F0 m 120 ls []) := by
  obtain ⟨hx, hb, hr, hml, hown, hts, hX, hbl, hlocks, hst⟩ := C
  obtain ⟨hJx, hJm, hKx, hKm, hEx, hEm, -, -, -, -, -, -⟩ := id hZ
  have hbA : ¬ lA s b := Nat.not_le.mpr hbl
  have e1 : (x4 + 1).toNatClampNeg = i + 1 := by rw [ex4, nI_1]; exact nI_clamp (by omega)
  have e2 : (x4 + 2).toNatClampNeg = i + 2 := by rw [ex4, show (2 : Int32) = nI 2 from rfl, nI_add]; exact nI_clamp (by omega)
  have e3 : (x4 + 3).toNatClampNeg = i + 3 := by rw [ex4, show (3 : Int32) = nI 3 from rfl, nI_add]; exact nI_clamp (by omega)
  have in1 : vp_in (x4 + 1) L := by rw [ex4, nI_1]; exact vp_in_nI (by omega) (by omega)
  have in2 : vp_in (x4 + 2) L := by rw [ex4, show (2 : Int32) = nI 2 from rfl, nI_add]; exact vp_in_nI (by omega) (by omega)
  have in3 : vp_in (x4 + 3) L := by rw [ex4, show (3 : Int32) = nI 3 from rfl, nI_add]; exact vp_in_nI (by omega) (by omega)
  refine lv_aload_n hx hb dL_law_120 rfl (lv_at hl 1 rfl) ?_
  refine lr_xi (res := (r, σx')) hZ hI (va_runV (As := []) (rest := []) ⟨hx, hb, hml, hown, hts⟩ (k_X11_tune l Zx σx  hm0) (cwV 0 hts gL_law_X11_tune rfl rfl rfl (by decide +kernel) ⟨Nat.le_of_ble_eq_true rfl, Nat.le_of_ble_eq_true rfl⟩) ⟨wx_blind, wr_recv hKx hI.1 (k := 155) (by decide) ((tX_TuneSearch Zx) _ _ _) rfl, fun U hU hW => ⟨rfl, wl_at hEx hJx hI.1 hKx hI.2.2.2 hU hW⟩⟩ rfl rfl hl.1 rfl (lv_room (Nat.le_of_ble_eq_true rfl)) dL_law_121 ⟨Nat.le_trans hcc (Nat.le_of_ble_eq_true rfl), Nat.le_trans hss (Nat.le_of_ble_eq_true rfl)⟩) (fun H locs hI => ?_)
  refine lv_aload_n hx hb dL_law_124 rfl (lv_at hl 2 rfl) ?_
  refine lr_mi (res := (r, σm')) hZ hI (va_runV (As := []) (rest := [.int r]) ⟨hx, hb, hml, hown, hts⟩ (k_X12_tune l Zm σm  hm1) (cwV 0 hts gL_law_X12_tune rfl rfl rfl (by decide +kernel) ⟨Nat.le_of_ble_eq_true rfl, Nat.le_of_ble_eq_true rfl⟩) ⟨wx_blind, wr_recv hKm hI.2.1 (k := 0) (by decide) ((tM_0 Zm) _ _ _) rfl, fun U hU hW => ⟨rfl, wl_at hEm hJm hI.2.1 hKm hI.2.2.2 hU hW⟩⟩ rfl rfl hl.1 rfl (lv_room (Nat.le_of_ble_eq_true rfl)) dL_law_125 ⟨Nat.le_trans hcc (Nat.le_of_ble_eq_true rfl), Nat.le_trans hss (Nat.le_of_ble_eq_true rfl)⟩) (fun H locs hI => ?_)
  refine lv_icmp_eq (tgt := 723) hx hb dL_law_128 (by decide) (fun _ => ?_) (fun q => absurd rfl q)
  exact kk H locs ls hI hl

set_option maxHeartbeats 4000000 in
set_option maxRecDepth 100000 in
theorem lc_1 {p : Program} {l : Launch} {e : Env} {s : State} {m : MethodId} {below : List Frame} {meth : Method} {c : Code} {b L i o : Nat} {xs : Nat → Int32} {Zx Zm : ZT} {x4 : Int32} {σx σm : SG} {f : Nat → Int64} {H : Heap} {locs : List Loc} {cells slots : Nat} {Q : State → Prop} {ls : Array Slot} (C : LC p l s m meth c b L xs) (hZ : LZ Zx Zm o s) (hi : i + 4 ≤ L) (hL : L ≤ 2048) (ex4 : x4 = nI i) (hI : LI Zx Zm o s σx σm f H locs) (hcc : cells ≤ 600000) (hss : slots ≤ 7000000) (hl : lv_has ls 8 [(0, .ref b), (1, .ref (za Zx 155)), (2, .ref (za Zm 0)), (3, .ref o), (4, .int x4)]) {r : Int32} {σx' σm' : SG} (hm0 : m_X11_note σx (xs (i + 1)) (xs (i + 2)) (xs (i + 3)) = some (r, σx')) (hm1 : m_X12_note σm (xs (i + 1)) (xs (i + 2)) (xs (i + 3)) = some (r, σm')) (kk : ∀ (H : Heap) (locs : List Loc) (ls : Array Slot), LI Zx Zm o s σx' σm' f H locs → lv_has ls 8 [(0, .ref b), (1, .ref (za Zx 155)), (2, .ref (za Zm 0)), (3, .ref o), (4, .int x4)] → W p l e room_1 s m #[Value.ref b] below meth c H locs cells slots Q (F0 m 723 ls [])) : W p l e room_1 s m #[Value.ref b] below meth c H locs cells slots Q (F0 m 133 ls []) := by
  obtain ⟨hx, hb, hr, hml, hown, hts, hX, hbl, hlocks, hst⟩ := C
  obtain ⟨hJx, hJm, hKx, hKm, hEx, hEm, -, -, -, -, -, -⟩ := id hZ
  have hbA : ¬ lA s b := Nat.not_le.mpr hbl
  have e1 : (x4 + 1).toNatClampNeg = i + 1 := by rw [ex4, nI_1]; exact nI_clamp (by omega)
  have e2 : (x4 + 2).toNatClampNeg = i + 2 := by rw [ex4, show (2 : Int32) = nI 2 from rfl, nI_add]; exact nI_clamp (by omega)
  have e3 : (x4 + 3).toNatClampNeg = i + 3 := by rw [ex4, show (3 : Int32) = nI 3 from rfl, nI_add]; exact nI_clamp (by omega)
  have in1 : vp_in (x4 + 1) L := by rw [ex4, nI_1]; exact vp_in_nI (by omega) (by omega)
  have in2 : vp_in (x4 + 2) L := by rw [ex4, show (2 : Int32) = nI 2 from rfl, nI_add]; exact vp_in_nI (by omega) (by omega)
  have in3 : vp_in (x4 + 3) L := by rw [ex4, show (3 : Int32) = nI 3 from rfl, nI_add]; exact vp_in_nI (by omega) (by omega)
  refine lv_aload_n hx hb dL_law_133 rfl (lv_at hl 1 rfl) ?_
  refine lv_aload_n hx hb dL_law_134 rfl (lv_at hl 0 rfl) ?_
  refine lv_iload hx hb dL_law_135 (lv_at hl 4 rfl) ?_
  refine lv_iconst (v := 1) hx hb dL_law_137 (by decide) ?_
  refine lv_iadd hx hb dL_law_138 ?_
  refine va_sld hx hb hX hbl hbA hI.2.2.2 in1 dL_law_139 ?_
  rw [e1]
  refine lv_aload_n hx hb dL_law_140 rfl (lv_at hl 0 rfl) ?_
  refine lv_iload hx hb dL_law_141 (lv_at hl 4 rfl) ?_
  refine lv_iconst (v := 2) hx hb dL_law_143 (by decide) ?_
  refine lv_iadd hx hb dL_law_144 ?_
  refine va_sld hx hb hX hbl hbA hI.2.2.2 in2 dL_law_145 ?_
  rw [e2]
  refine lv_aload_n hx hb dL_law_146 rfl (lv_at hl 0 rfl) ?_
  refine lv_iload hx hb dL_law_147 (lv_at hl 4 rfl) ?_
  refine lv_iconst (v := 3) hx hb dL_law_149 (by decide) ?_
  refine lv_iadd hx hb dL_law_150 ?_
  refine va_sld hx hb hX hbl hbA hI.2.2.2 in3 dL_law_151 ?_
  rw [e3]
  refine lr_xi (res := (r, σx')) hZ hI (va_runV (As := [.int (xs (i + 1)), .int (xs (i + 2)), .int (xs (i + 3))]) (rest := []) ⟨hx, hb, hml, hown, hts⟩ (k_X11_note l Zx σx (xs (i + 1)) (xs (i + 2)) (xs (i + 3)) hm0) (cwV 3 hts gL_law_X11_note rfl rfl rfl (by decide +kernel) ⟨Nat.le_of_ble_eq_true rfl, Nat.le_of_ble_eq_true rfl⟩) ⟨wx_blind, wr_recv hKx hI.1 (k := 155) (by decide) ((tX_TuneSearch Zx) _ _ _) rfl, fun U hU hW => ⟨rfl, wl_at hEx hJx hI.1 hKx hI.2.2.2 hU hW⟩⟩ rfl rfl hl.1 rfl (lv_room (Nat.le_of_ble_eq_true rfl)) dL_law_152 ⟨Nat.le_trans hcc (Nat.le_of_ble_eq_true rfl), Nat.le_trans hss (Nat.le_of_ble_eq_true rfl)⟩) (fun H locs hI => ?_)
  refine lv_aload_n hx hb dL_law_155 rfl (lv_at hl 2 rfl) ?_
  refine lv_aload_n hx hb dL_law_156 rfl (lv_at hl 0 rfl) ?_
  refine lv_iload hx hb dL_law_157 (lv_at hl 4 rfl) ?_
  refine lv_iconst (v := 1) hx hb dL_law_159 (by decide) ?_
  refine lv_iadd hx hb dL_law_160 ?_
  refine va_sld hx hb hX hbl hbA hI.2.2.2 in1 dL_law_161 ?_
  rw [e1]
  refine lv_aload_n hx hb dL_law_162 rfl (lv_at hl 0 rfl) ?_
  refine lv_iload hx hb dL_law_163 (lv_at hl 4 rfl) ?_
  refine lv_iconst (v := 2) hx hb dL_law_165 (by decide) ?_
  refine lv_iadd hx hb dL_law_166 ?_
  refine va_sld hx hb hX hbl hbA hI.2.2.2 in2 dL_law_167 ?_
  rw [e2]
  refine lv_aload_n hx hb dL_law_168 rfl (lv_at hl 0 rfl) ?_
  refine lv_iload hx hb dL_law_169 (lv_at hl 4 rfl) ?_
  refine lv_iconst (v := 3) hx hb dL_law_171 (by decide) ?_
  refine lv_iadd hx hb dL_law_172 ?_
  refine va_sld hx hb hX hbl hbA hI.2.2.2 in3 dL_law_173 ?_
  rw [e3]
  refine lr_mi (res := (r, σm')) hZ hI (va_runV (As := [.int (xs (i + 1)), .int (xs (i + 2)), .int (xs (i + 3))]) (rest := [.int r]) ⟨hx, hb, hml, hown, hts⟩ (k_X12_note l Zm σm (xs (i + 1)) (xs (i + 2)) (xs (i + 3)) hm1) (cwV 3 hts gL_law_X12_note rfl rfl rfl (by decide +kernel) ⟨Nat.le_of_ble_eq_true rfl, Nat.le_of_ble_eq_true rfl⟩) ⟨wx_blind, wr_recv hKm hI.2.1 (k := 0) (by decide) ((tM_0 Zm) _ _ _) rfl, fun U hU hW => ⟨rfl, wl_at hEm hJm hI.2.1 hKm hI.2.2.2 hU hW⟩⟩ rfl rfl hl.1 rfl (lv_room (Nat.le_of_ble_eq_true rfl)) dL_law_174 ⟨Nat.le_trans hcc (Nat.le_of_ble_eq_true rfl), Nat.le_trans hss (Nat.le_of_ble_eq_true rfl)⟩) (fun H locs hI => ?_)
  refine lv_icmp_eq (tgt := 723) hx hb dL_law_177 (by decide) (fun _ => ?_) (fun q => absurd rfl q)
  exact kk H locs ls hI hl

set_option maxHeartbeats 4000000 in
set_option maxRecDepth 100000 in
theorem lc_2 {p : Program} {l : Launch} {e : Env} {s : State} {m : MethodId} {below : List Frame} {meth : Method} {c : Code} {b L i o : Nat} {xs : Nat → Int32} {Zx Zm : ZT} {x4 : Int32} {σx σm : SG} {f : Nat → Int64} {H : Heap} {locs : List Loc} {cells slots : Nat} {Q : State → Prop} {ls : Array Slot} (C : LC p l s m meth c b L xs) (hZ : LZ Zx Zm o s) (hi : i + 4 ≤ L) (hL : L ≤ 2048) (ex4 : x4 = nI i) (hI : LI Zx Zm o s σx σm f H locs) (hcc : cells ≤ 600000) (hss : slots ≤ 7000000) (hl : lv_has ls 8 [(0, .ref b), (1, .ref (za Zx 155)), (2, .ref (za Zm 0)), (3, .ref o), (4, .int x4)]) {r : Int32} {σx' σm' : SG} (hm0 : m_X11_query σx (xs (i + 1)) (xs (i + 2)) = some (r, σx')) (hm1 : m_X12_query σm (xs (i + 1)) (xs (i + 2)) = some (r, σm')) (kk : ∀ (H : Heap) (locs : List Loc) (ls : Array Slot), LI Zx Zm o s σx' σm' f H locs → lv_has ls 8 [(0, .ref b), (1, .ref (za Zx 155)), (2, .ref (za Zm 0)), (3, .ref o), (4, .int x4)] → W p l e room_1 s m #[Value.ref b] below meth c H locs cells slots Q (F0 m 723 ls [])) : W p l e room_1 s m #[Value.ref b] below meth c H locs cells slots Q (F0 m 182 ls []) := by
  obtain ⟨hx, hb, hr, hml, hown, hts, hX, hbl, hlocks, hst⟩ := C
  obtain ⟨hJx, hJm, hKx, hKm, hEx, hEm, -, -, -, -, -, -⟩ := id hZ
  have hbA : ¬ lA s b := Nat.not_le.mpr hbl
  have e1 : (x4 + 1).toNatClampNeg = i + 1 := by rw [ex4, nI_1]; exact nI_clamp (by omega)
  have e2 : (x4 + 2).toNatClampNeg = i + 2 := by rw [ex4, show (2 : Int32) = nI 2 from rfl, nI_add]; exact nI_clamp (by omega)
  have e3 : (x4 + 3).toNatClampNeg = i + 3 := by rw [ex4, show (3 : Int32) = nI 3 from rfl, nI_add]; exact nI_clamp (by omega)
  have in1 : vp_in (x4 + 1) L := by rw [ex4, nI_1]; exact vp_in_nI (by omega) (by omega)
  have in2 : vp_in (x4 + 2) L := by rw [ex4, show (2 : Int32) = nI 2 from rfl, nI_add]; exact vp_in_nI (by omega) (by omega)
  have in3 : vp_in (x4 + 3) L := by rw [ex4, show (3 : Int32) = nI 3 from rfl, nI_add]; exact vp_in_nI (by omega) (by omega)
  refine lv_aload_n hx hb dL_law_182 rfl (lv_at hl 1 rfl) ?_
  refine lv_aload_n hx hb dL_law_183 rfl (lv_at hl 0 rfl) ?_
  refine lv_iload hx hb dL_law_184 (lv_at hl 4 rfl) ?_
  refine lv_iconst (v := 1) hx hb dL_law_186 (by decide) ?_
  refine lv_iadd hx hb dL_law_187 ?_
  refine va_sld hx hb hX hbl hbA hI.2.2.2 in1 dL_law_188 ?_
  rw [e1]
  refine lv_aload_n hx hb dL_law_189 rfl (lv_at hl 0 rfl) ?_
  refine lv_iload hx hb dL_law_190 (lv_at hl 4 rfl) ?_
  refine lv_iconst (v := 2) hx hb dL_law_192 (by decide) ?_
  refine lv_iadd hx hb dL_law_193 ?_
  refine va_sld hx hb hX hbl hbA hI.2.2.2 in2 dL_law_194 ?_
  rw [e2]
  refine lr_xi (res := (r, σx')) hZ hI (va_runV (As := [.int (xs (i + 1)), .int (xs (i + 2))]) (rest := []) ⟨hx, hb, hml, hown, hts⟩ (k_X11_query l Zx σx (xs (i + 1)) (xs (i + 2)) hm0) (cwV 2 hts gL_law_X11_query rfl rfl rfl (by decide +kernel) ⟨Nat.le_of_ble_eq_true rfl, Nat.le_of_ble_eq_true rfl⟩) ⟨wx_blind, wr_recv hKx hI.1 (k := 155) (by decide) ((tX_TuneSearch Zx) _ _ _) rfl, fun U hU hW => ⟨rfl, wl_at hEx hJx hI.1 hKx hI.2.2.2 hU hW⟩⟩ rfl rfl hl.1 rfl (lv_room (Nat.le_of_ble_eq_true rfl)) dL_law_195 ⟨Nat.le_trans hcc (Nat.le_of_ble_eq_true rfl), Nat.le_trans hss (Nat.le_of_ble_eq_true rfl)⟩) (fun H locs hI => ?_)
  refine lv_aload_n hx hb dL_law_198 rfl (lv_at hl 2 rfl) ?_
  refine lv_aload_n hx hb dL_law_199 rfl (lv_at hl 0 rfl) ?_
  refine lv_iload hx hb dL_law_200 (lv_at hl 4 rfl) ?_
  refine lv_iconst (v := 1) hx hb dL_law_202 (by decide) ?_
  refine lv_iadd hx hb dL_law_203 ?_
  refine va_sld hx hb hX hbl hbA hI.2.2.2 in1 dL_law_204 ?_
  rw [e1]
  refine lv_aload_n hx hb dL_law_205 rfl (lv_at hl 0 rfl) ?_
  refine lv_iload hx hb dL_law_206 (lv_at hl 4 rfl) ?_
  refine lv_iconst (v := 2) hx hb dL_law_208 (by decide) ?_
  refine lv_iadd hx hb dL_law_209 ?_
  refine va_sld hx hb hX hbl hbA hI.2.2.2 in2 dL_law_210 ?_
  rw [e2]
  refine lr_mi (res := (r, σm')) hZ hI (va_runV (As := [.int (xs (i + 1)), .int (xs (i + 2))]) (rest := [.int r]) ⟨hx, hb, hml, hown, hts⟩ (k_X12_query l Zm σm (xs (i + 1)) (xs (i + 2)) hm1) (cwV 2 hts gL_law_X12_query rfl rfl rfl (by decide +kernel) ⟨Nat.le_of_ble_eq_true rfl, Nat.le_of_ble_eq_true rfl⟩) ⟨wx_blind, wr_recv hKm hI.2.1 (k := 0) (by decide) ((tM_0 Zm) _ _ _) rfl, fun U hU hW => ⟨rfl, wl_at hEm hJm hI.2.1 hKm hI.2.2.2 hU hW⟩⟩ rfl rfl hl.1 rfl (lv_room (Nat.le_of_ble_eq_true rfl)) dL_law_211 ⟨Nat.le_trans hcc (Nat.le_of_ble_eq_true rfl), Nat.le_trans hss (Nat.le_of_ble_eq_true rfl)⟩) (fun H locs hI => ?_)
  refine lv_icmp_eq (tgt := 723) hx hb dL_law_214 (by decide) (fun _ => ?_) (fun q => absurd rfl q)
  exact kk H locs ls hI hl

set_option maxHeartbeats 4000000 in
set_option maxRecDepth 100000 in
theorem lc_3 {p : Program} {l : Launch} {e : Env} {s : State} {m : MethodId} {below : List Frame} {meth : Method} {c : Code} {b L i o : Nat} {xs : Nat → Int32} {Zx Zm : ZT} {x4 : Int32} {σx σm : SG} {f : Nat → Int64} {H : Heap} {locs : List Loc} {cells slots : Nat} {Q : State → Prop} {ls : Array Slot} (C : LC p l s m meth c b L xs) (hZ : LZ Zx Zm o s) (hi : i + 4 ≤ L) (hL : L ≤ 2048) (ex4 : x4 = nI i) (hI : LI Zx Zm o s σx σm f H locs) (hcc : cells ≤ 600000) (hss : slots ≤ 7000000) (hl : lv_has ls 8 [(0, .ref b), (1, .ref (za Zx 155)), (2, .ref (za Zm 0)), (3, .ref o), (4, .int x4)]) {r : Int32} {σx' σm' : SG} (hm0 : m_X11_forget σx  = some (r, σx')) (hm1 : m_X12_forget σm  = some (r, σm')) (kk : ∀ (H : Heap) (locs : List Loc) (ls : Array Slot), LI Zx Zm o s σx' σm' f H locs → lv_has ls 8 [(0, .ref b), (1, .ref (za Zx 155)), (2, .ref (za Zm 0)), (3, .ref o), (4, .int x4)] → W p l e room_1 s m #[Value.ref b] below meth c H locs cells slots Q (F0 m 723 ls [])) : W p l e room_1 s m #[Value.ref b] below meth c H locs cells slots Q (F0 m 219 ls []) := by
  obtain ⟨hx, hb, hr, hml, hown, hts, hX, hbl, hlocks, hst⟩ := C
  obtain ⟨hJx, hJm, hKx, hKm, hEx, hEm, -, -, -, -, -, -⟩ := id hZ
  have hbA : ¬ lA s b := Nat.not_le.mpr hbl
  have e1 : (x4 + 1).toNatClampNeg = i + 1 := by rw [ex4, nI_1]; exact nI_clamp (by omega)
  have e2 : (x4 + 2).toNatClampNeg = i + 2 := by rw [ex4, show (2 : Int32) = nI 2 from rfl, nI_add]; exact nI_clamp (by omega)
  have e3 : (x4 + 3).toNatClampNeg = i + 3 := by rw [ex4, show (3 : Int32) = nI 3 from rfl, nI_add]; exact nI_clamp (by omega)
  have in1 : vp_in (x4 + 1) L := by rw [ex4, nI_1]; exact vp_in_nI (by omega) (by omega)
  have in2 : vp_in (x4 + 2) L := by rw [ex4, show (2 : Int32) = nI 2 from rfl, nI_add]; exact vp_in_nI (by omega) (by omega)
  have in3 : vp_in (x4 + 3) L := by rw [ex4, show (3 : Int32) = nI 3 from rfl, nI_add]; exact vp_in_nI (by omega) (by omega)
  refine lv_aload_n hx hb dL_law_219 rfl (lv_at hl 1 rfl) ?_
  refine lr_xi (res := (r, σx')) hZ hI (va_runV (As := []) (rest := []) ⟨hx, hb, hml, hown, hts⟩ (k_X11_forget l Zx σx  hm0) (cwV 0 hts gL_law_X11_forget rfl rfl rfl (by decide +kernel) ⟨Nat.le_of_ble_eq_true rfl, Nat.le_of_ble_eq_true rfl⟩) ⟨wx_blind, wr_recv hKx hI.1 (k := 155) (by decide) ((tX_TuneSearch Zx) _ _ _) rfl, fun U hU hW => ⟨rfl, wl_at hEx hJx hI.1 hKx hI.2.2.2 hU hW⟩⟩ rfl rfl hl.1 rfl (lv_room (Nat.le_of_ble_eq_true rfl)) dL_law_220 ⟨Nat.le_trans hcc (Nat.le_of_ble_eq_true rfl), Nat.le_trans hss (Nat.le_of_ble_eq_true rfl)⟩) (fun H locs hI => ?_)
  refine lv_aload_n hx hb dL_law_223 rfl (lv_at hl 2 rfl) ?_
  refine lr_mi (res := (r, σm')) hZ hI (va_runV (As := []) (rest := [.int r]) ⟨hx, hb, hml, hown, hts⟩ (k_X12_forget l Zm σm  hm1) (cwV 0 hts gL_law_X12_forget rfl rfl rfl (by decide +kernel) ⟨Nat.le_of_ble_eq_true rfl, Nat.le_of_ble_eq_true rfl⟩) ⟨wx_blind, wr_recv hKm hI.2.1 (k := 0) (by decide) ((tM_0 Zm) _ _ _) rfl, fun U hU hW => ⟨rfl, wl_at hEm hJm hI.2.1 hKm hI.2.2.2 hU hW⟩⟩ rfl rfl hl.1 rfl (lv_room (Nat.le_of_ble_eq_true rfl)) dL_law_224 ⟨Nat.le_trans hcc (Nat.le_of_ble_eq_true rfl), Nat.le_trans hss (Nat.le_of_ble_eq_true rfl)⟩) (fun H locs hI => ?_)
  refine lv_icmp_eq (tgt := 723) hx hb dL_law_227 (by decide) (fun _ => ?_) (fun q => absurd rfl q)
  exact kk H locs ls hI hl

set_option maxHeartbeats 4000000 in
set_option maxRecDepth 100000 in
theorem lc_4 {p : Program} {l : Launch} {e : Env} {s : State} {m : MethodId} {below : List Frame} {meth : Method} {c : Code} {b L i o : Nat} {xs : Nat → Int32} {Zx Zm : ZT} {x4 : Int32} {σx σm : SG} {f : Nat → Int64} {H : Heap} {locs : List Loc} {cells slots : Nat} {Q : State → Prop} {ls : Array Slot} (C : LC p l s m meth c b L xs) (hZ : LZ Zx Zm o s) (hi : i + 4 ≤ L) (hL : L ≤ 2048) (ex4 : x4 = nI i) (hI : LI Zx Zm o s σx σm f H locs) (hcc : cells ≤ 600000) (hss : slots ≤ 7000000) (hl : lv_has ls 8 [(0, .ref b), (1, .ref (za Zx 155)), (2, .ref (za Zm 0)), (3, .ref o), (4, .int x4)]) {r : Int32} {σx' σm' : SG} (hm0 : m_X11_price σx (xs (i + 1)) (xs (i + 2)) = some (r, σx')) (hm1 : m_X12_price σm (xs (i + 1)) (xs (i + 2)) = some (r, σm')) (kk : ∀ (H : Heap) (locs : List Loc) (ls : Array Slot), LI Zx Zm o s σx' σm' f H locs → lv_has ls 8 [(0, .ref b), (1, .ref (za Zx 155)), (2, .ref (za Zm 0)), (3, .ref o), (4, .int x4)] → W p l e room_1 s m #[Value.ref b] below meth c H locs cells slots Q (F0 m 723 ls [])) : W p l e room_1 s m #[Value.ref b] below meth c H locs cells slots Q (F0 m 232 ls []) := by
  obtain ⟨hx, hb, hr, hml, hown, hts, hX, hbl, hlocks, hst⟩ := C
  obtain ⟨hJx, hJm, hKx, hKm, hEx, hEm, -, -, -, -, -, -⟩ := id hZ
  have hbA : ¬ lA s b := Nat.not_le.mpr hbl
  have e1 : (x4 + 1).toNatClampNeg = i + 1 := by rw [ex4, nI_1]; exact nI_clamp (by omega)
  have e2 : (x4 + 2).toNatClampNeg = i + 2 := by rw [ex4, show (2 : Int32) = nI 2 from rfl, nI_add]; exact nI_clamp (by omega)
  have e3 : (x4 + 3).toNatClampNeg = i + 3 := by rw [ex4, show (3 : Int32) = nI 3 from rfl, nI_add]; exact nI_clamp (by omega)
  have in1 : vp_in (x4 + 1) L := by rw [ex4, nI_1]; exact vp_in_nI (by omega) (by omega)
  have in2 : vp_in (x4 + 2) L := by rw [ex4, show (2 : Int32) = nI 2 from rfl, nI_add]; exact vp_in_nI (by omega) (by omega)
  have in3 : vp_in (x4 + 3) L := by rw [ex4, show (3 : Int32) = nI 3 from rfl, nI_add]; exact vp_in_nI (by omega) (by omega)
  refine lv_aload_n hx hb dL_law_232 rfl (lv_at hl 1 rfl) ?_
  refine lv_aload_n hx hb dL_law_233 rfl (lv_at hl 0 rfl) ?_
  refine lv_iload hx hb dL_law_234 (lv_at hl 4 rfl) ?_
  refine lv_iconst (v := 1) hx hb dL_law_236 (by decide) ?_
  refine lv_iadd hx hb dL_law_237 ?_
  refine va_sld hx hb hX hbl hbA hI.2.2.2 in1 dL_law_238 ?_
  rw [e1]
  refine lv_aload_n hx hb dL_law_239 rfl (lv_at hl 0 rfl) ?_
  refine lv_iload hx hb dL_law_240 (lv_at hl 4 rfl) ?_
  refine lv_iconst (v := 2) hx hb dL_law_242 (by decide) ?_
  refine lv_iadd hx hb dL_law_243 ?_
  refine va_sld hx hb hX hbl hbA hI.2.2.2 in2 dL_law_244 ?_
  rw [e2]
  refine lr_xi (res := (r, σx')) hZ hI (va_runV (As := [.int (xs (i + 1)), .int (xs (i + 2))]) (rest := []) ⟨hx, hb, hml, hown, hts⟩ (k_X11_price l Zx σx (xs (i + 1)) (xs (i + 2)) hm0) (cwV 2 hts gL_law_X11_price rfl rfl rfl (by decide +kernel) ⟨Nat.le_of_ble_eq_true rfl, Nat.le_of_ble_eq_true rfl⟩) ⟨wx_blind, wr_recv hKx hI.1 (k := 155) (by decide) ((tX_TuneSearch Zx) _ _ _) rfl, fun U hU hW => ⟨rfl, wl_at hEx hJx hI.1 hKx hI.2.2.2 hU hW⟩⟩ rfl rfl hl.1 rfl (lv_room (Nat.le_of_ble_eq_true rfl)) dL_law_245 ⟨Nat.le_trans hcc (Nat.le_of_ble_eq_true rfl), Nat.le_trans hss (Nat.le_of_ble_eq_true rfl)⟩) (fun H locs hI => ?_)
  refine lv_aload_n hx hb dL_law_248 rfl (lv_at hl 2 rfl) ?_
  refine lv_aload_n hx hb dL_law_249 rfl (lv_at hl 0 rfl) ?_
  refine lv_iload hx hb dL_law_250 (lv_at hl 4 rfl) ?_
  refine lv_iconst (v := 1) hx hb dL_law_252 (by decide) ?_
  refine lv_iadd hx hb dL_law_253 ?_
  refine va_sld hx hb hX hbl hbA hI.2.2.2 in1 dL_law_254 ?_
  rw [e1]
  refine lv_aload_n hx hb dL_law_255 rfl (lv_at hl 0 rfl) ?_
  refine lv_iload hx hb dL_law_256 (lv_at hl 4 rfl) ?_
  refine lv_iconst (v := 2) hx hb dL_law_258 (by decide) ?_
  refine lv_iadd hx hb dL_law_259 ?_
  refine va_sld hx hb hX hbl hbA hI.2.2.2 in2 dL_law_260 ?_
  rw [e2]
  refine lr_mi (res := (r, σm')) hZ hI (va_runV (As := [.int (xs (i + 1)), .int (xs (i + 2))]) (rest := [.int r]) ⟨hx, hb, hml, hown, hts⟩ (k_X12_price l Zm σm (xs (i + 1)) (xs (i + 2)) hm1) (cwV 2 hts gL_law_X12_price rfl rfl rfl (by decide +kernel) ⟨Nat.le_of_ble_eq_true rfl, Nat.le_of_ble_eq_true rfl⟩) ⟨wx_blind, wr_recv hKm hI.2.1 (k := 0) (by decide) ((tM_0 Zm) _ _ _) rfl, fun U hU hW => ⟨rfl, wl_at hEm hJm hI.2.1 hKm hI.2.2.2 hU hW⟩⟩ rfl rfl hl.1 rfl (lv_room (Nat.le_of_ble_eq_true rfl)) dL_law_261 ⟨Nat.le_trans hcc (Nat.le_of_ble_eq_true rfl), Nat.le_trans hss (Nat.le_of_ble_eq_true rfl)⟩) (fun H locs hI => ?_)
  refine lv_icmp_eq (tgt := 723) hx hb dL_law_264 (by decide) (fun _ => ?_) (fun q => absurd rfl q)
  exact kk H locs ls hI hl

set_option maxHeartbeats 4000000 in
set_option maxRecDepth 100000 in
theorem lc_5 {p : Program} {l : Launch} {e : Env} {s : State} {m : MethodId} {below : List Frame} {meth : Method} {c : Code} {b L i o : Nat} {xs : Nat → Int32} {Zx Zm : ZT} {x4 : Int32} {σx σm : SG} {f : Nat → Int64} {H : Heap} {locs : List Loc} {cells slots : Nat} {Q : State → Prop} {ls : Array Slot} (C : LC p l s m meth c b L xs) (hZ : LZ Zx Zm o s) (hi : i + 4 ≤ L) (hL : L ≤ 2048) (ex4 : x4 = nI i) (hI : LI Zx Zm o s σx σm f H locs) (hcc : cells ≤ 600000) (hss : slots ≤ 7000000) (hl : lv_has ls 8 [(0, .ref b), (1, .ref (za Zx 155)), (2, .ref (za Zm 0)), (3, .ref o), (4, .int x4)]) {r : Int32} {σx' σm' : SG} (hm0 : m_X11_type σx ((((xs (i + 1)).toInt64) <<< ((32 : Int32).toInt64 &&& 63)) ||| (((xs (i + 2)).toInt64) &&& 4294967295)) (xs (i + 3)) = some (r, σx')) (hm1 : m_X12_type σm ((((xs (i + 1)).toInt64) <<< ((32 : Int32).toInt64 &&& 63)) ||| (((xs (i + 2)).toInt64) &&& 4294967295)) (xs (i + 3)) = some (r, σm')) (kk : ∀ (H : Heap) (locs : List Loc) (ls : Array Slot), LI Zx Zm o s σx' σm' f H locs → lv_has ls 8 [(0, .ref b), (1, .ref (za Zx 155)), (2, .ref (za Zm 0)), (3, .ref o), (4, .int x4)] → W p l e room_1 s m #[Value.ref b] below meth c H locs cells slots Q (F0 m 723 ls [])) : W p l e room_1 s m #[Value.ref b] below meth c H locs cells slots Q (F0 m 269 ls []) := by
  obtain ⟨hx, hb, hr, hml, hown, hts, hX, hbl, hlocks, hst⟩ := C
  obtain ⟨hJx, hJm, hKx, hKm, hEx, hEm, -, -, -, -, -, -⟩ := id hZ
  have hbA : ¬ lA s b := Nat.not_le.mpr hbl
  have e1 : (x4 + 1).toNatClampNeg = i + 1 := by rw [ex4, nI_1]; exact nI_clamp (by omega)
  have e2 : (x4 + 2).toNatClampNeg = i + 2 := by rw [ex4, show (2 : Int32) = nI 2 from rfl, nI_add]; exact nI_clamp (by omega)
  have e3 : (x4 + 3).toNatClampNeg = i + 3 := by rw [ex4, show (3 : Int32) = nI 3 from rfl, nI_add]; exact nI_clamp (by omega)
  have in1 : vp_in (x4 + 1) L := by rw [ex4, nI_1]; exact vp_in_nI (by omega) (by omega)
  have in2 : vp_in (x4 + 2) L := by rw [ex4, show (2 : Int32) = nI 2 from rfl, nI_add]; exact vp_in_nI (by omega) (by omega)
  have in3 : vp_in (x4 + 3) L := by rw [ex4, show (3 : Int32) = nI 3 from rfl, nI_add]; exact vp_in_nI (by omega) (by omega)
  refine lv_aload_n hx hb dL_law_269 rfl (lv_at hl 1 rfl) ?_
  refine lv_aload_n hx hb dL_law_270 rfl (lv_at hl 0 rfl) ?_
  refine lv_iload hx hb dL_law_271 (lv_at hl 4 rfl) ?_
  refine lv_iconst (v := 1) hx hb dL_law_273 (by decide) ?_
  refine lv_iadd hx hb dL_law_274 ?_
  refine va_sld hx hb hX hbl hbA hI.2.2.2 in1 dL_law_275 ?_
  rw [e1]
  refine lv_i2l hx hb dL_law_276 rfl ?_
  refine lv_bipush (v := 32) hx hb dL_law_277 (by decide) ?_
  refine lv_lshl hx hb dL_law_279 rfl ?_
  refine lv_aload_n hx hb dL_law_280 rfl (lv_at hl 0 rfl) ?_
  refine lv_iload hx hb dL_law_281 (lv_at hl 4 rfl) ?_
  refine lv_iconst (v := 2) hx hb dL_law_283 (by decide) ?_
  refine lv_iadd hx hb dL_law_284 ?_
  refine va_sld hx hb hX hbl hbA hI.2.2.2 in2 dL_law_285 ?_
  rw [e2]
  refine lv_i2l hx hb dL_law_286 rfl ?_
  refine lv_ldc2 (v := 4294967295) hx hb hown (hts (.constantLong RL 47 4294967295) wm_47) dL_law_287 ?_
  refine lv_land hx hb dL_law_290 ?_
  refine lv_lor hx hb dL_law_291 ?_
  refine lv_aload_n hx hb dL_law_292 rfl (lv_at hl 0 rfl) ?_
  refine lv_iload hx hb dL_law_293 (lv_at hl 4 rfl) ?_
  refine lv_iconst (v := 3) hx hb dL_law_295 (by decide) ?_
  refine lv_iadd hx hb dL_law_296 ?_
  refine va_sld hx hb hX hbl hbA hI.2.2.2 in3 dL_law_297 ?_
  rw [e3]
  refine lr_xi (res := (r, σx')) hZ hI (va_runV (As := [.long ((((xs (i + 1)).toInt64) <<< ((32 : Int32).toInt64 &&& 63)) ||| (((xs (i + 2)).toInt64) &&& 4294967295)), .int (xs (i + 3))]) (rest := []) ⟨hx, hb, hml, hown, hts⟩ (k_X11_type l Zx σx ((((xs (i + 1)).toInt64) <<< ((32 : Int32).toInt64 &&& 63)) ||| (((xs (i + 2)).toInt64) &&& 4294967295)) (xs (i + 3)) hm0) (cwV 2 hts gL_law_X11_type rfl rfl rfl (by decide +kernel) ⟨Nat.le_of_ble_eq_true rfl, Nat.le_of_ble_eq_true rfl⟩) ⟨wx_blind, wr_recv hKx hI.1 (k := 155) (by decide) ((tX_TuneSearch Zx) _ _ _) rfl, fun U hU hW => ⟨rfl, wl_at hEx hJx hI.1 hKx hI.2.2.2 hU hW⟩⟩ rfl rfl hl.1 rfl (lv_room (Nat.le_of_ble_eq_true rfl)) dL_law_298 ⟨Nat.le_trans hcc (Nat.le_of_ble_eq_true rfl), Nat.le_trans hss (Nat.le_of_ble_eq_true rfl)⟩) (fun H locs hI => ?_)
  refine lv_aload_n hx hb dL_law_301 rfl (lv_at hl 2 rfl) ?_
  refine lv_aload_n hx hb dL_law_302 rfl (lv_at hl 0 rfl) ?_
  refine lv_iload hx hb dL_law_303 (lv_at hl 4 rfl) ?_
  refine lv_iconst (v := 1) hx hb dL_law_305 (by decide) ?_
  refine lv_iadd hx hb dL_law_306 ?_
  refine va_sld hx hb hX hbl hbA hI.2.2.2 in1 dL_law_307 ?_
  rw [e1]
  refine lv_i2l hx hb dL_law_308 rfl ?_
  refine lv_bipush (v := 32) hx hb dL_law_309 (by decide) ?_
  refine lv_lshl hx hb dL_law_311 rfl ?_
  refine lv_aload_n hx hb dL_law_312 rfl (lv_at hl 0 rfl) ?_
  refine lv_iload hx hb dL_law_313 (lv_at hl 4 rfl) ?_
  refine lv_iconst (v := 2) hx hb dL_law_315 (by decide) ?_
  refine lv_iadd hx hb dL_law_316 ?_
  refine va_sld hx hb hX hbl hbA hI.2.2.2 in2 dL_law_317 ?_
  rw [e2]
  refine lv_i2l hx hb dL_law_318 rfl ?_
  refine lv_ldc2 (v := 4294967295) hx hb hown (hts (.constantLong RL 47 4294967295) wm_47) dL_law_319 ?_
  refine lv_land hx hb dL_law_322 ?_
  refine lv_lor hx hb dL_law_323 ?_
  refine lv_aload_n hx hb dL_law_324 rfl (lv_at hl 0 rfl) ?_
  refine lv_iload hx hb dL_law_325 (lv_at hl 4 rfl) ?_
  refine lv_iconst (v := 3) hx hb dL_law_327 (by decide) ?_
  refine lv_iadd hx hb dL_law_328 ?_
  refine va_sld hx hb hX hbl hbA hI.2.2.2 in3 dL_law_329 ?_
  rw [e3]
  refine lr_mi (res := (r, σm')) hZ hI (va_runV (As := [.long ((((xs (i + 1)).toInt64) <<< ((32 : Int32).toInt64 &&& 63)) ||| (((xs (i + 2)).toInt64) &&& 4294967295)), .int (xs (i + 3))]) (rest := [.int r]) ⟨hx, hb, hml, hown, hts⟩ (k_X12_type l Zm σm ((((xs (i + 1)).toInt64) <<< ((32 : Int32).toInt64 &&& 63)) ||| (((xs (i + 2)).toInt64) &&& 4294967295)) (xs (i + 3)) hm1) (cwV 2 hts gL_law_X12_type rfl rfl rfl (by decide +kernel) ⟨Nat.le_of_ble_eq_true rfl, Nat.le_of_ble_eq_true rfl⟩) ⟨wx_blind, wr_recv hKm hI.2.1 (k := 0) (by decide) ((tM_0 Zm) _ _ _) rfl, fun U hU hW => ⟨rfl, wl_at hEm hJm hI.2.1 hKm hI.2.2.2 hU hW⟩⟩ rfl rfl hl.1 rfl (lv_room (Nat.le_of_ble_eq_true rfl)) dL_law_330 ⟨Nat.le_trans hcc (Nat.le_of_ble_eq_true rfl), Nat.le_trans hss (Nat.le_of_ble_eq_true rfl)⟩) (fun H locs hI => ?_)
  refine lv_icmp_eq (tgt := 723) hx hb dL_law_333 (by decide) (fun _ => ?_) (fun q => absurd rfl q)
  exact kk H locs ls hI hl

set_option maxHeartbeats 4000000 in
set_option maxRecDepth 100000 in
theorem lc_6 {p : Program} {l : Launch} {e : Env} {s : State} {m : MethodId} {below : List Frame} {meth : Method} {c : Code} {b L i o : Nat} {xs : Nat → Int32} {Zx Zm : ZT} {x4 : Int32} {σx σm : SG} {f : Nat → Int64} {H : Heap} {locs : List Loc} {cells slots : Nat} {Q : State → Prop} {ls : Array Slot} (C : LC p l s m meth c b L xs) (hZ : LZ Zx Zm o s) (hi : i + 4 ≤ L) (hL : L ≤ 2048) (ex4 : x4 = nI i) (hI : LI Zx Zm o s σx σm f H locs) (hcc : cells ≤ 600000) (hss : slots ≤ 7000000) (hl : lv_has ls 8 [(0, .ref b), (1, .ref (za Zx 155)), (2, .ref (za Zm 0)), (3, .ref o), (4, .int x4)]) {r : Int32} {σx' σm' : SG} (hm0 : m_X11_word σx  = some (r, σx')) (hm1 : m_X12_word σm  = some (r, σm')) (kk : ∀ (H : Heap) (locs : List Loc) (ls : Array Slot), LI Zx Zm o s σx' σm' f H locs → lv_has ls 8 [(0, .ref b), (1, .ref (za Zx 155)), (2, .ref (za Zm 0)), (3, .ref o), (4, .int x4)] → W p l e room_1 s m #[Value.ref b] below meth c H locs cells slots Q (F0 m 723 ls [])) : W p l e room_1 s m #[Value.ref b] below meth c H locs cells slots Q (F0 m 338 ls []) := by
  obtain ⟨hx, hb, hr, hml, hown, hts, hX, hbl, hlocks, hst⟩ := C
  obtain ⟨hJx, hJm, hKx, hKm, hEx, hEm, -, -, -, -, -, -⟩ := id hZ
  have hbA : ¬ lA s b := Nat.not_le.mpr hbl
  have e1 : (x4 + 1).toNatClampNeg = i + 1 := by rw [ex4, nI_1]; exact nI_clamp (by omega)
  have e2 : (x4 + 2).toNatClampNeg = i + 2 := by rw [ex4, show (2 : Int32) = nI 2 from rfl, nI_add]; exact nI_clamp (by omega)
  have e3 : (x4 + 3).toNatClampNeg = i + 3 := by rw [ex4, show (3 : Int32) = nI 3 from rfl, nI_add]; exact nI_clamp (by omega)
  have in1 : vp_in (x4 + 1) L := by rw [ex4, nI_1]; exact vp_in_nI (by omega) (by omega)
  have in2 : vp_in (x4 + 2) L := by rw [ex4, show (2 : Int32) = nI 2 from rfl, nI_add]; exact vp_in_nI (by omega) (by omega)
  have in3 : vp_in (x4 + 3) L := by rw [ex4, show (3 : Int32) = nI 3 from rfl, nI_add]; exact vp_in_nI (by omega) (by omega)
  refine lv_aload_n hx hb dL_law_338 rfl (lv_at hl 1 rfl) ?_
  refine lr_xi (res := (r, σx')) hZ hI (va_runV (As := []) (rest := []) ⟨hx, hb, hml, hown, hts⟩ (k_X11_word l Zx σx  hm0) (cwV 0 hts gL_law_X11_word rfl rfl rfl (by decide +kernel) ⟨Nat.le_of_ble_eq_true rfl, Nat.le_of_ble_eq_true rfl⟩) ⟨wx_blind, wr_recv hKx hI.1 (k := 155) (by decide) ((tX_TuneSearch Zx) _ _ _) rfl, fun U hU hW => ⟨rfl, wl_at hEx hJx hI.1 hKx hI.2.2.2 hU hW⟩⟩ rfl rfl hl.1 rfl (lv_room (Nat.le_of_ble_eq_true rfl)) dL_law_339 ⟨Nat.le_trans hcc (Nat.le_of_ble_eq_true rfl), Nat.le_trans hss (Nat.le_of_ble_eq_true rfl)⟩) (fun H locs hI => ?_)
  refine lv_aload_n hx hb dL_law_342 rfl (lv_at hl 2 rfl) ?_
  refine lr_mi (res := (r, σm')) hZ hI (va_runV (As := []) (rest := [.int r]) ⟨hx, hb, hml, hown, hts⟩ (k_X12_word l Zm σm  hm1) (cwV 0 hts gL_law_X12_word rfl rfl rfl (by decide +kernel) ⟨Nat.le_of_ble_eq_true rfl, Nat.le_of_ble_eq_true rfl⟩) ⟨wx_blind, wr_recv hKm hI.2.1 (k := 0) (by decide) ((tM_0 Zm) _ _ _) rfl, fun U hU hW => ⟨rfl, wl_at hEm hJm hI.2.1 hKm hI.2.2.2 hU hW⟩⟩ rfl rfl hl.1 rfl (lv_room (Nat.le_of_ble_eq_true rfl)) dL_law_343 ⟨Nat.le_trans hcc (Nat.le_of_ble_eq_true rfl), Nat.le_trans hss (Nat.le_of_ble_eq_true rfl)⟩) (fun H locs hI => ?_)
  refine lv_icmp_eq (tgt := 723) hx hb dL_law_346 (by decide) (fun _ => ?_) (fun q => absurd rfl q)
  exact kk H locs ls hI hl

set_option maxHeartbeats 4000000 in
set_option maxRecDepth 100000 in
theorem lc_7 {p : Program} {l : Launch} {e : Env} {s : State} {m : MethodId} {below : List Frame} {meth : Method} {c : Code} {b L i o : Nat} {xs : Nat → Int32} {Zx Zm : ZT} {x4 : Int32} {σx σm : SG} {f : Nat → Int64} {H : Heap} {locs : List Loc} {cells slots : Nat} {Q : State → Prop} {ls : Array Slot} (C : LC p l s m meth c b L xs) (hZ : LZ Zx Zm o s) (hi : i + 4 ≤ L) (hL : L ≤ 2048) (ex4 : x4 = nI i) (hI : LI Zx Zm o s σx σm f H locs) (hcc : cells ≤ 600000) (hss : slots ≤ 7000000) (hl : lv_has ls 8 [(0, .ref b), (1, .ref (za Zx 155)), (2, .ref (za Zm 0)), (3, .ref o), (4, .int x4)]) {r : Int32} {σx' σm' : SG} (hm0 : m_X11_fault σx  = some (r, σx')) (hm1 : m_X12_fault_ σm  = some (r, σm')) (kk : ∀ (H : Heap) (locs : List Loc) (ls : Array Slot), LI Zx Zm o s σx' σm' f H locs → lv_has ls 8 [(0, .ref b), (1, .ref (za Zx 155)), (2, .ref (za Zm 0)), (3, .ref o), (4, .int x4)] → W p l e room_1 s m #[Value.ref b] below meth c H locs cells slots Q (F0 m 723 ls [])) : W p l e room_1 s m #[Value.ref b] below meth c H locs cells slots Q (F0 m 351 ls []) := by
  obtain ⟨hx, hb, hr, hml, hown, hts, hX, hbl, hlocks, hst⟩ := C
  obtain ⟨hJx, hJm, hKx, hKm, hEx, hEm, -, -, -, -, -, -⟩ := id hZ
  have hbA : ¬ lA s b := Nat.not_le.mpr hbl
  have e1 : (x4 + 1).toNatClampNeg = i + 1 := by rw [ex4, nI_1]; exact nI_clamp (by omega)
  have e2 : (x4 + 2).toNatClampNeg = i + 2 := by rw [ex4, show (2 : Int32) = nI 2 from rfl, nI_add]; exact nI_clamp (by omega)
  have e3 : (x4 + 3).toNatClampNeg = i + 3 := by rw [ex4, show (3 : Int32) = nI 3 from rfl, nI_add]; exact nI_clamp (by omega)
  have in1 : vp_in (x4 + 1) L := by rw [ex4, nI_1]; exact vp_in_nI (by omega) (by omega)
  have in2 : vp_in (x4 + 2) L := by rw [ex4, show (2 : Int32) = nI 2 from rfl, nI_add]; exact vp_in_nI (by omega) (by omega)
  have in3 : vp_in (x4 + 3) L := by rw [ex4, show (3 : Int32) = nI 3 from rfl, nI_add]; exact vp_in_nI (by omega) (by omega)
  refine lv_aload_n hx hb dL_law_351 rfl (lv_at hl 1 rfl) ?_
  refine lr_xi (res := (r, σx')) hZ hI (va_runV (As := []) (rest := []) ⟨hx, hb, hml, hown, hts⟩ (k_X11_fault l Zx σx  hm0) (cwV 0 hts gL_law_X11_fault rfl rfl rfl (by decide +kernel) ⟨Nat.le_of_ble_eq_true rfl, Nat.le_of_ble_eq_true rfl⟩) ⟨wx_blind, wr_recv hKx hI.1 (k := 155) (by decide) ((tX_TuneSearch Zx) _ _ _) rfl, fun U hU hW => ⟨rfl, wl_at hEx hJx hI.1 hKx hI.2.2.2 hU hW⟩⟩ rfl rfl hl.1 rfl (lv_room (Nat.le_of_ble_eq_true rfl)) dL_law_352 ⟨Nat.le_trans hcc (Nat.le_of_ble_eq_true rfl), Nat.le_trans hss (Nat.le_of_ble_eq_true rfl)⟩) (fun H locs hI => ?_)
  refine lv_aload_n hx hb dL_law_355 rfl (lv_at hl 2 rfl) ?_
  refine lr_mi (res := (r, σm')) hZ hI (va_runV (As := []) (rest := [.int r]) ⟨hx, hb, hml, hown, hts⟩ (k_X12_fault_ l Zm σm  hm1) (cwV 0 hts gL_law_X12_fault_ rfl rfl rfl (by decide +kernel) ⟨Nat.le_of_ble_eq_true rfl, Nat.le_of_ble_eq_true rfl⟩) ⟨wx_blind, wr_recv hKm hI.2.1 (k := 0) (by decide) ((tM_0 Zm) _ _ _) rfl, fun U hU hW => ⟨rfl, wl_at hEm hJm hI.2.1 hKm hI.2.2.2 hU hW⟩⟩ rfl rfl hl.1 rfl (lv_room (Nat.le_of_ble_eq_true rfl)) dL_law_356 ⟨Nat.le_trans hcc (Nat.le_of_ble_eq_true rfl), Nat.le_trans hss (Nat.le_of_ble_eq_true rfl)⟩) (fun H locs hI => ?_)
  refine lv_icmp_eq (tgt := 723) hx hb dL_law_359 (by decide) (fun _ => ?_) (fun q => absurd rfl q)
  exact kk H locs ls hI hl

set_option maxHeartbeats 4000000 in
set_option maxRecDepth 100000 in
theorem lc_8 {p : Program} {l : Launch} {e : Env} {s : State} {m : MethodId} {below : List Frame} {meth : Method} {c : Code} {b L i o : Nat} {xs : Nat → Int32} {Zx Zm : ZT} {x4 : Int32} {σx σm : SG} {f : Nat → Int64} {H : Heap} {locs : List Loc} {cells slots : Nat} {Q : State → Prop} {ls : Array Slot} (C : LC p l s m meth c b L xs) (hZ : LZ Zx Zm o s) (hi : i + 4 ≤ L) (hL : L ≤ 2048) (ex4 : x4 = nI i) (hI : LI Zx Zm o s σx σm f H locs) (hcc : cells ≤ 600000) (hss : slots ≤ 7000000) (hl : lv_has ls 8 [(0, .ref b), (1, .ref (za Zx 155)), (2, .ref (za Zm 0)), (3, .ref o), (4, .int x4)]) {r : Int32} {σx' σm' : SG} (hm0 : m_X11_find σx (xs (i + 1)) = some (r, σx')) (hm1 : m_X12_find_ σm (xs (i + 1)) = some (r, σm')) (kk : ∀ (H : Heap) (locs : List Loc) (ls : Array Slot), LI Zx Zm o s σx' σm' f H locs → lv_has ls 8 [(0, .ref b), (1, .ref (za Zx 155)), (2, .ref (za Zm 0)), (3, .ref o), (4, .int x4)] → W p l e room_1 s m #[Value.ref b] below meth c H locs cells slots Q (F0 m 723 ls [])) : W p l e room_1 s m #[Value.ref b] below meth c H locs cells slots Q (F0 m 364 ls []) := by
  obtain ⟨hx, hb, hr, hml, hown, hts, hX, hbl, hlocks, hst⟩ := C
  obtain ⟨hJx, hJm, hKx, hKm, hEx, hEm, -, -, -, -, -, -⟩ := id hZ
  have hbA : ¬ lA s b := Nat.not_le.mpr hbl
  have e1 : (x4 + 1).toNatClampNeg = i + 1 := by rw [ex4, nI_1]; exact nI_clamp (by omega)
  have e2 : (x4 + 2).toNatClampNeg = i + 2 := by rw [ex4, show (2 : Int32) = nI 2 from rfl, nI_add]; exact nI_clamp (by omega)
  have e3 : (x4 + 3).toNatClampNeg = i + 3 := by rw [ex4, show (3 : Int32) = nI 3 from rfl, nI_add]; exact nI_clamp (by omega)
  have in1 : vp_in (x4 + 1) L := by rw [ex4, nI_1]; exact vp_in_nI (by omega) (by omega)
  have in2 : vp_in (x4 + 2) L := by rw [ex4, show (2 : Int32) = nI 2 from rfl, nI_add]; exact vp_in_nI (by omega) (by omega)
  have in3 : vp_in (x4 + 3) L := by rw [ex4, show (3 : Int32) = nI 3 from rfl, nI_add]; exact vp_in_nI (by omega) (by omega)
  refine lv_aload_n hx hb dL_law_364 rfl (lv_at hl 1 rfl) ?_
  refine lv_aload_n hx hb dL_law_365 rfl (lv_at hl 0 rfl) ?_
  refine lv_iload hx hb dL_law_366 (lv_at hl 4 rfl) ?_
  refine lv_iconst (v := 1) hx hb dL_law_368 (by decide) ?_
  refine lv_iadd hx hb dL_law_369 ?_
  refine va_sld hx hb hX hbl hbA hI.2.2.2 in1 dL_law_370 ?_
  rw [e1]
  refine lr_xi (res := (r, σx')) hZ hI (va_runV (As := [.int (xs (i + 1))]) (rest := []) ⟨hx, hb, hml, hown, hts⟩ (k_X11_find l Zx σx (xs (i + 1)) hm0) (cwV 1 hts gL_law_X11_find rfl rfl rfl (by decide +kernel) ⟨Nat.le_of_ble_eq_true rfl, Nat.le_of_ble_eq_true rfl⟩) ⟨wx_blind, wr_recv hKx hI.1 (k := 155) (by decide) ((tX_TuneSearch Zx) _ _ _) rfl, fun U hU hW => ⟨rfl, wl_at hEx hJx hI.1 hKx hI.2.2.2 hU hW⟩⟩ rfl rfl hl.1 rfl (lv_room (Nat.le_of_ble_eq_true rfl)) dL_law_371 ⟨Nat.le_trans hcc (Nat.le_of_ble_eq_true rfl), Nat.le_trans hss (Nat.le_of_ble_eq_true rfl)⟩) (fun H locs hI => ?_)
  refine lv_aload_n hx hb dL_law_374 rfl (lv_at hl 2 rfl) ?_
  refine lv_aload_n hx hb dL_law_375 rfl (lv_at hl 0 rfl) ?_
  refine lv_iload hx hb dL_law_376 (lv_at hl 4 rfl) ?_
  refine lv_iconst (v := 1) hx hb dL_law_378 (by decide) ?_
  refine lv_iadd hx hb dL_law_379 ?_
  refine va_sld hx hb hX hbl hbA hI.2.2.2 in1 dL_law_380 ?_
  rw [e1]
  refine lr_mi (res := (r, σm')) hZ hI (va_runV (As := [.int (xs (i + 1))]) (rest := [.int r]) ⟨hx, hb, hml, hown, hts⟩ (k_X12_find_ l Zm σm (xs (i + 1)) hm1) (cwV 1 hts gL_law_X12_find_ rfl rfl rfl (by decide +kernel) ⟨Nat.le_of_ble_eq_true rfl, Nat.le_of_ble_eq_true rfl⟩) ⟨wx_blind, wr_recv hKm hI.2.1 (k := 0) (by decide) ((tM_0 Zm) _ _ _) rfl, fun U hU hW => ⟨rfl, wl_at hEm hJm hI.2.1 hKm hI.2.2.2 hU hW⟩⟩ rfl rfl hl.1 rfl (lv_room (Nat.le_of_ble_eq_true rfl)) dL_law_381 ⟨Nat.le_trans hcc (Nat.le_of_ble_eq_true rfl), Nat.le_trans hss (Nat.le_of_ble_eq_true rfl)⟩) (fun H locs hI => ?_)
  refine lv_icmp_eq (tgt := 723) hx hb dL_law_384 (by decide) (fun _ => ?_) (fun q => absurd rfl q)
  exact kk H locs ls hI hl

set_option maxHeartbeats 4000000 in
set_option maxRecDepth 100000 in
theorem lc_9 {p : Program} {l : Launch} {e : Env} {s : State} {m : MethodId} {below : List Frame} {meth : Method} {c : Code} {b L i o : Nat} {xs : Nat → Int32} {Zx Zm : ZT} {x4 : Int32} {σx σm : SG} {f : Nat → Int64} {H : Heap} {locs : List Loc} {cells slots : Nat} {Q : State → Prop} {ls : Array Slot} (C : LC p l s m meth c b L xs) (hZ : LZ Zx Zm o s) (hi : i + 4 ≤ L) (hL : L ≤ 2048) (ex4 : x4 = nI i) (hI : LI Zx Zm o s σx σm f H locs) (hcc : cells ≤ 600000) (hss : slots ≤ 7000000) (hl : lv_has ls 8 [(0, .ref b), (1, .ref (za Zx 155)), (2, .ref (za Zm 0)), (3, .ref o), (4, .int x4)]) {r : Int32} {σx' σm' : SG} (hm0 : m_X11_near σx (xs (i + 1)) (xs (i + 2)) = some (r, σx')) (hm1 : m_X12_near σm (xs (i + 1)) (xs (i + 2)) = some (r, σm')) (kk : ∀ (H : Heap) (locs : List Loc) (ls : Array Slot), LI Zx Zm o s σx' σm' f H locs → lv_has ls 8 [(0, .ref b), (1, .ref (za Zx 155)), (2, .ref (za Zm 0)), (3, .ref o), (4, .int x4)] → W p l e room_1 s m #[Value.ref b] below meth c H locs cells slots Q (F0 m 723 ls [])) : W p l e room_1 s m #[Value.ref b] below meth c H locs cells slots Q (F0 m 389 ls []) := by
  obtain ⟨hx, hb, hr, hml, hown, hts, hX, hbl, hlocks, hst⟩ := C
  obtain ⟨hJx, hJm, hKx, hKm, hEx, hEm, -, -, -, -, -, -⟩ := id hZ
  have hbA : ¬ lA s b := Nat.not_le.mpr hbl
  have e1 : (x4 + 1).toNatClampNeg = i + 1 := by rw [ex4, nI_1]; exact nI_clamp (by omega)
  have e2 : (x4 + 2).toNatClampNeg = i + 2 := by rw [ex4, show (2 : Int32) = nI 2 from rfl, nI_add]; exact nI_clamp (by omega)
  have e3 : (x4 + 3).toNatClampNeg = i + 3 := by rw [ex4, show (3 : Int32) = nI 3 from rfl, nI_add]; exact nI_clamp (by omega)
  have in1 : vp_in (x4 + 1) L := by rw [ex4, nI_1]; exact vp_in_nI (by omega) (by omega)
  have in2 : vp_in (x4 + 2) L := by rw [ex4, show (2 : Int32) = nI 2 from rfl, nI_add]; exact vp_in_nI (by omega) (by omega)
  have in3 : vp_in (x4 + 3) L := by rw [ex4, show (3 : Int32) = nI 3 from rfl, nI_add]; exact vp_in_nI (by omega) (by omega)
  refine lv_aload_n hx hb dL_law_389 rfl (lv_at hl 1 rfl) ?_
  refine lv_aload_n hx hb dL_law_390 rfl (lv_at hl 0 rfl) ?_
  refine lv_iload hx hb dL_law_391 (lv_at hl 4 rfl) ?_
  refine lv_iconst (v := 1) hx hb dL_law_393 (by decide) ?_
  refine lv_iadd hx hb dL_law_394 ?_
  refine va_sld hx hb hX hbl hbA hI.2.2.2 in1 dL_law_395 ?_
  rw [e1]
  refine lv_aload_n hx hb dL_law_396 rfl (lv_at hl 0 rfl) ?_
  refine lv_iload hx hb dL_law_397 (lv_at hl 4 rfl) ?_
  refine lv_iconst (v := 2) hx hb dL_law_399 (by decide) ?_
  refine lv_iadd hx hb dL_law_400 ?_
  refine va_sld hx hb hX hbl hbA hI.2.2.2 in2 dL_law_401 ?_
  rw [e2]
  refine lr_xi (res := (r, σx')) hZ hI (va_runV (As := [.int (xs (i + 1)), .int (xs (i + 2))]) (rest := []) ⟨hx, hb, hml, hown, hts⟩ (k_X11_near l Zx σx (xs (i + 1)) (xs (i + 2)) hm0) (cwV 2 hts gL_law_X11_near rfl rfl rfl (by decide +kernel) ⟨Nat.le_of_ble_eq_true rfl, Nat.le_of_ble_eq_true rfl⟩) ⟨wx_blind, wr_recv hKx hI.1 (k := 155) (by decide) ((tX_TuneSearch Zx) _ _ _) rfl, fun U hU hW => ⟨rfl, wl_at hEx hJx hI.1 hKx hI.2.2.2 hU hW⟩⟩ rfl rfl hl.1 rfl (lv_room (Nat.le_of_ble_eq_true rfl)) dL_law_402 ⟨Nat.le_trans hcc (Nat.le_of_ble_eq_true rfl), Nat.le_trans hss (Nat.le_of_ble_eq_true rfl)⟩) (fun H locs hI => ?_)
  refine lv_aload_n hx hb dL_law_405 rfl (lv_at hl 2 rfl) ?_
  refine lv_aload_n hx hb dL_law_406 rfl (lv_at hl 0 rfl) ?_
  refine lv_iload hx hb dL_law_407 (lv_at hl 4 rfl) ?_
  refine lv_iconst (v := 1) hx hb dL_law_409 (by decide) ?_
  refine lv_iadd hx hb dL_law_410 ?_
  refine va_sld hx hb hX hbl hbA hI.2.2.2 in1 dL_law_411 ?_
  rw [e1]
  refine lv_aload_n hx hb dL_law_412 rfl (lv_at hl 0 rfl) ?_
  refine lv_iload hx hb dL_law_413 (lv_at hl 4 rfl) ?_
  refine lv_iconst (v := 2) hx hb dL_law_415 (by decide) ?_
  refine lv_iadd hx hb dL_law_416 ?_
  refine va_sld hx hb hX hbl hbA hI.2.2.2 in2 dL_law_417 ?_
  rw [e2]
  refine lr_mi (res := (r, σm')) hZ hI (va_runV (As := [.int (xs (i + 1)), .int (xs (i + 2))]) (rest := [.int r]) ⟨hx, hb, hml, hown, hts⟩ (k_X12_near l Zm σm (xs (i + 1)) (xs (i + 2)) hm1) (cwV 2 hts gL_law_X12_near rfl rfl rfl (by decide +kernel) ⟨Nat.le_of_ble_eq_true rfl, Nat.le_of_ble_eq_true rfl⟩) ⟨wx_blind, wr_recv hKm hI.2.1 (k := 0) (by decide) ((tM_0 Zm) _ _ _) rfl, fun U hU hW => ⟨rfl, wl_at hEm hJm hI.2.1 hKm hI.2.2.2 hU hW⟩⟩ rfl rfl hl.1 rfl (lv_room (Nat.le_of_ble_eq_true rfl)) dL_law_418 ⟨Nat.le_trans hcc (Nat.le_of_ble_eq_true rfl), Nat.le_trans hss (Nat.le_of_ble_eq_true rfl)⟩) (fun H locs hI => ?_)
  refine lv_icmp_eq (tgt := 723) hx hb dL_law_421 (by decide) (fun _ => ?_) (fun q => absurd rfl q)
  exact kk H locs ls hI hl

set_option maxHeartbeats 4000000 in
set_option maxRecDepth 100000 in
theorem lc_11 {p : Program} {l : Launch} {e : Env} {s : State} {m : MethodId} {below : List Frame} {meth : Method} {c : Code} {b L i o : Nat} {xs : Nat → Int32} {Zx Zm : ZT} {x4 : Int32} {σx σm : SG} {f : Nat → Int64} {H : Heap} {locs : List Loc} {cells slots : Nat} {Q : State → Prop} {ls : Array Slot} (C : LC p l s m meth c b L xs) (hZ : LZ Zx Zm o s) (hi : i + 4 ≤ L) (hL : L ≤ 2048) (ex4 : x4 = nI i) (hI : LI Zx Zm o s σx σm f H locs) (hcc : cells ≤ 600000) (hss : slots ≤ 7000000) (hl : lv_has ls 8 [(0, .ref b), (1, .ref (za Zx 155)), (2, .ref (za Zm 0)), (3, .ref o), (4, .int x4)]) {r : Int32} {σx' σm' : SG} (hm0 : m_X11_distance σx (xs (i + 1)) (xs (i + 2)) (xs (i + 3)) = some (r, σx')) (hm1 : m_X12_distance σm (xs (i + 1)) (xs (i + 2)) (xs (i + 3)) = some (r, σm')) (kk : ∀ (H : Heap) (locs : List Loc) (ls : Array Slot), LI Zx Zm o s σx' σm' f H locs → lv_has ls 8 [(0, .ref b), (1, .ref (za Zx 155)), (2, .ref (za Zm 0)), (3, .ref o), (4, .int x4)] → W p l e room_1 s m #[Value.ref b] below meth c H locs cells slots Q (F0 m 723 ls [])) : W p l e room_1 s m #[Value.ref b] below meth c H locs cells slots Q (F0 m 494 ls []) := by
  obtain ⟨hx, hb, hr, hml, hown, hts, hX, hbl, hlocks, hst⟩ := C
  obtain ⟨hJx, hJm, hKx, hKm, hEx, hEm, -, -, -, -, -, -⟩ := id hZ
  have hbA : ¬ lA s b := Nat.not_le.mpr hbl
  have e1 : (x4 + 1).toNatClampNeg = i + 1 := by rw [ex4, nI_1]; exact nI_clamp (by omega)
  have e2 : (x4 + 2).toNatClampNeg = i + 2 := by rw [ex4, show (2 : Int32) = nI 2 from rfl, nI_add]; exact nI_clamp (by omega)
  have e3 : (x4 + 3).toNatClampNeg = i + 3 := by rw [ex4, show (3 : Int32) = nI 3 from rfl, nI_add]; exact nI_clamp (by omega)
  have in1 : vp_in (x4 + 1) L := by rw [ex4, nI_1]; exact vp_in_nI (by omega) (by omega)
  have in2 : vp_in (x4 + 2) L := by rw [ex4, show (2 : Int32) = nI 2 from rfl, nI_add]; exact vp_in_nI (by omega) (by omega)
  have in3 : vp_in (x4 + 3) L := by rw [ex4, show (3 : Int32) = nI 3 from rfl, nI_add]; exact vp_in_nI (by omega) (by omega)
  refine lv_aload_n hx hb dL_law_494 rfl (lv_at hl 1 rfl) ?_
  refine lv_aload_n hx hb dL_law_495 rfl (lv_at hl 0 rfl) ?_
  refine lv_iload hx hb dL_law_496 (lv_at hl 4 rfl) ?_
  refine lv_iconst (v := 1) hx hb dL_law_498 (by decide) ?_
  refine lv_iadd hx hb dL_law_499 ?_
  refine va_sld hx hb hX hbl hbA hI.2.2.2 in1 dL_law_500 ?_
  rw [e1]
  refine lv_aload_n hx hb dL_law_501 rfl (lv_at hl 0 rfl) ?_
  refine lv_iload hx hb dL_law_502 (lv_at hl 4 rfl) ?_
  refine lv_iconst (v := 2) hx hb dL_law_504 (by decide) ?_
  refine lv_iadd hx hb dL_law_505 ?_
  refine va_sld hx hb hX hbl hbA hI.2.2.2 in2 dL_law_506 ?_
  rw [e2]
  refine lv_aload_n hx hb dL_law_507 rfl (lv_at hl 0 rfl) ?_
  refine lv_iload hx hb dL_law_508 (lv_at hl 4 rfl) ?_
  refine lv_iconst (v := 3) hx hb dL_law_510 (by decide) ?_
  refine lv_iadd hx hb dL_law_511 ?_
  refine va_sld hx hb hX hbl hbA hI.2.2.2 in3 dL_law_512 ?_
  rw [e3]
  refine lr_xi (res := (r, σx')) hZ hI (va_runV (As := [.int (xs (i + 1)), .int (xs (i + 2)), .int (xs (i + 3))]) (rest := []) ⟨hx, hb, hml, hown, hts⟩ (k_X11_distance l Zx σx (xs (i + 1)) (xs (i + 2)) (xs (i + 3)) hm0) (cwV 3 hts gL_law_X11_distance rfl rfl rfl (by decide +kernel) ⟨Nat.le_of_ble_eq_true rfl, Nat.le_of_ble_eq_true rfl⟩) ⟨wx_blind, wr_recv hKx hI.1 (k := 155) (by decide) ((tX_TuneSearch Zx) _ _ _) rfl, fun U hU hW => ⟨rfl, wl_at hEx hJx hI.1 hKx hI.2.2.2 hU hW⟩⟩ rfl rfl hl.1 rfl (lv_room (Nat.le_of_ble_eq_true rfl)) dL_law_513 ⟨Nat.le_trans hcc (Nat.le_of_ble_eq_true rfl), Nat.le_trans hss (Nat.le_of_ble_eq_true rfl)⟩) (fun H locs hI => ?_)
  refine lv_aload_n hx hb dL_law_516 rfl (lv_at hl 2 rfl) ?_
  refine lv_aload_n hx hb dL_law_517 rfl (lv_at hl 0 rfl) ?_
  refine lv_iload hx hb dL_law_518 (lv_at hl 4 rfl) ?_
  refine lv_iconst (v := 1) hx hb dL_law_520 (by decide) ?_
  refine lv_iadd hx hb dL_law_521 ?_
  refine va_sld hx hb hX hbl hbA hI.2.2.2 in1 dL_law_522 ?_
  rw [e1]
  refine lv_aload_n hx hb dL_law_523 rfl (lv_at hl 0 rfl) ?_
  refine lv_iload hx hb dL_law_524 (lv_at hl 4 rfl) ?_
  refine lv_iconst (v := 2) hx hb dL_law_526 (by decide) ?_
  refine lv_iadd hx hb dL_law_527 ?_
  refine va_sld hx hb hX hbl hbA hI.2.2.2 in2 dL_law_528 ?_
  rw [e2]
  refine lv_aload_n hx hb dL_law_529 rfl (lv_at hl 0 rfl) ?_
  refine lv_iload hx hb dL_law_530 (lv_at hl 4 rfl) ?_
  refine lv_iconst (v := 3) hx hb dL_law_532 (by decide) ?_
  refine lv_iadd hx hb dL_law_533 ?_
  refine va_sld hx hb hX hbl hbA hI.2.2.2 in3 dL_law_534 ?_
  rw [e3]
  refine lr_mi (res := (r, σm')) hZ hI (va_runV (As := [.int (xs (i + 1)), .int (xs (i + 2)), .int (xs (i + 3))]) (rest := [.int r]) ⟨hx, hb, hml, hown, hts⟩ (k_X12_distance l Zm σm (xs (i + 1)) (xs (i + 2)) (xs (i + 3)) hm1) (cwV 3 hts gL_law_X12_distance rfl rfl rfl (by decide +kernel) ⟨Nat.le_of_ble_eq_true rfl, Nat.le_of_ble_eq_true rfl⟩) ⟨wx_blind, wr_recv hKm hI.2.1 (k := 0) (by decide) ((tM_0 Zm) _ _ _) rfl, fun U hU hW => ⟨rfl, wl_at hEm hJm hI.2.1 hKm hI.2.2.2 hU hW⟩⟩ rfl rfl hl.1 rfl (lv_room (Nat.le_of_ble_eq_true rfl)) dL_law_535 ⟨Nat.le_trans hcc (Nat.le_of_ble_eq_true rfl), Nat.le_trans hss (Nat.le_of_ble_eq_true rfl)⟩) (fun H locs hI => ?_)
  refine lv_icmp_eq (tgt := 723) hx hb dL_law_538 (by decide) (fun _ => ?_) (fun q => absurd rfl q)
  exact kk H locs ls hI hl

set_option maxHeartbeats 4000000 in
set_option maxRecDepth 100000 in
theorem lc_12 {p : Program} {l : Launch} {e : Env} {s : State} {m : MethodId} {below : List Frame} {meth : Method} {c : Code} {b L i o : Nat} {xs : Nat → Int32} {Zx Zm : ZT} {x4 : Int32} {σx σm : SG} {f : Nat → Int64} {H : Heap} {locs : List Loc} {cells slots : Nat} {Q : State → Prop} {ls : Array Slot} (C : LC p l s m meth c b L xs) (hZ : LZ Zx Zm o s) (hi : i + 4 ≤ L) (hL : L ≤ 2048) (ex4 : x4 = nI i) (hI : LI Zx Zm o s σx σm f H locs) (hcc : cells ≤ 600000) (hss : slots ≤ 7000000) (hl : lv_has ls 8 [(0, .ref b), (1, .ref (za Zx 155)), (2, .ref (za Zm 0)), (3, .ref o), (4, .int x4)]) {r : Int64} {σx' σm' : SG} (hm0 : m_X11_freight σx (xs (i + 1)) (xs (i + 2)) = some (r, σx')) (hm1 : m_X12_freight σm (xs (i + 1)) (xs (i + 2)) = some (r, σm')) (kk : ∀ (H : Heap) (locs : List Loc) (ls : Array Slot), LI Zx Zm o s σx' σm' f H locs → lv_has ls 8 [(0, .ref b), (1, .ref (za Zx 155)), (2, .ref (za Zm 0)), (3, .ref o), (4, .int x4)] → W p l e room_1 s m #[Value.ref b] below meth c H locs cells slots Q (F0 m 723 ls [])) : W p l e room_1 s m #[Value.ref b] below meth c H locs cells slots Q (F0 m 543 ls []) := by
  obtain ⟨hx, hb, hr, hml, hown, hts, hX, hbl, hlocks, hst⟩ := C
  obtain ⟨hJx, hJm, hKx, hKm, hEx, hEm, -, -, -, -, -, -⟩ := id hZ
  have hbA : ¬ lA s b := Nat.not_le.mpr hbl
  have e1 : (x4 + 1).toNatClampNeg = i + 1 := by rw [ex4, nI_1]; exact nI_clamp (by omega)
  have e2 : (x4 + 2).toNatClampNeg = i + 2 := by rw [ex4, show (2 : Int32) = nI 2 from rfl, nI_add]; exact nI_clamp (by omega)
  have e3 : (x4 + 3).toNatClampNeg = i + 3 := by rw [ex4, show (3 : Int32) = nI 3 from rfl, nI_add]; exact nI_clamp (by omega)
  have in1 : vp_in (x4 + 1) L := by rw [ex4, nI_1]; exact vp_in_nI (by omega) (by omega)
  have in2 : vp_in (x4 + 2) L := by rw [ex4, show (2 : Int32) = nI 2 from rfl, nI_add]; exact vp_in_nI (by omega) (by omega)
  have in3 : vp_in (x4 + 3) L := by rw [ex4, show (3 : Int32) = nI 3 from rfl, nI_add]; exact vp_in_nI (by omega) (by omega)
  refine lv_aload_n hx hb dL_law_543 rfl (lv_at hl 1 rfl) ?_
  refine lv_aload_n hx hb dL_law_544 rfl (lv_at hl 0 rfl) ?_
  refine lv_iload hx hb dL_law_545 (lv_at hl 4 rfl) ?_
  refine lv_iconst (v := 1) hx hb dL_law_547 (by decide) ?_
  refine lv_iadd hx hb dL_law_548 ?_
  refine va_sld hx hb hX hbl hbA hI.2.2.2 in1 dL_law_549 ?_
  rw [e1]
  refine lv_aload_n hx hb dL_law_550 rfl (lv_at hl 0 rfl) ?_
  refine lv_iload hx hb dL_law_551 (lv_at hl 4 rfl) ?_
  refine lv_iconst (v := 2) hx hb dL_law_553 (by decide) ?_
  refine lv_iadd hx hb dL_law_554 ?_
  refine va_sld hx hb hX hbl hbA hI.2.2.2 in2 dL_law_555 ?_
  rw [e2]
  refine lr_xl (res := (r, σx')) hZ hI (va_runV (As := [.int (xs (i + 1)), .int (xs (i + 2))]) (rest := []) ⟨hx, hb, hml, hown, hts⟩ (k_X11_freight l Zx σx (xs (i + 1)) (xs (i + 2)) hm0) (cwV 2 hts gL_law_X11_freight rfl rfl rfl (by decide +kernel) ⟨Nat.le_of_ble_eq_true rfl, Nat.le_of_ble_eq_true rfl⟩) ⟨wx_blind, wr_recv hKx hI.1 (k := 155) (by decide) ((tX_TuneSearch Zx) _ _ _) rfl, fun U hU hW => ⟨rfl, wl_at hEx hJx hI.1 hKx hI.2.2.2 hU hW⟩⟩ rfl rfl hl.1 rfl (lv_room (Nat.le_of_ble_eq_true rfl)) dL_law_556 ⟨Nat.le_trans hcc (Nat.le_of_ble_eq_true rfl), Nat.le_trans hss (Nat.le_of_ble_eq_true rfl)⟩) (fun H locs hI => ?_)
  refine lv_aload_n hx hb dL_law_559 rfl (lv_at hl 2 rfl) ?_
  refine lv_aload_n hx hb dL_law_560 rfl (lv_at hl 0 rfl) ?_
  refine lv_iload hx hb dL_law_561 (lv_at hl 4 rfl) ?_
  refine lv_iconst (v := 1) hx hb dL_law_563 (by decide) ?_
  refine lv_iadd hx hb dL_law_564 ?_
  refine va_sld hx hb hX hbl hbA hI.2.2.2 in1 dL_law_565 ?_
  rw [e1]
  refine lv_aload_n hx hb dL_law_566 rfl (lv_at hl 0 rfl) ?_
  refine lv_iload hx hb dL_law_567 (lv_at hl 4 rfl) ?_
  refine lv_iconst (v := 2) hx hb dL_law_569 (by decide) ?_
  refine lv_iadd hx hb dL_law_570 ?_
  refine va_sld hx hb hX hbl hbA hI.2.2.2 in2 dL_law_571 ?_
  rw [e2]
  refine lr_ml (res := (r, σm')) hZ hI (va_runV (As := [.int (xs (i + 1)), .int (xs (i + 2))]) (rest := [.long r]) ⟨hx, hb, hml, hown, hts⟩ (k_X12_freight l Zm σm (xs (i + 1)) (xs (i + 2)) hm1) (cwV 2 hts gL_law_X12_freight rfl rfl rfl (by decide +kernel) ⟨Nat.le_of_ble_eq_true rfl, Nat.le_of_ble_eq_true rfl⟩) ⟨wx_blind, wr_recv hKm hI.2.1 (k := 0) (by decide) ((tM_0 Zm) _ _ _) rfl, fun U hU hW => ⟨rfl, wl_at hEm hJm hI.2.1 hKm hI.2.2.2 hU hW⟩⟩ rfl rfl hl.1 rfl (lv_room (Nat.le_of_ble_eq_true rfl)) dL_law_572 ⟨Nat.le_trans hcc (Nat.le_of_ble_eq_true rfl), Nat.le_trans hss (Nat.le_of_ble_eq_true rfl)⟩) (fun H locs hI => ?_)
  refine W.lcmp hx hb dL_law_575 ?_
  refine lv_if_eq (tgt := 723) hx hb dL_law_576 (by decide) (fun _ => ?_) (fun q => absurd (lg_cmp_r r) q)
  exact kk H locs ls hI hl

set_option maxHeartbeats 4000000 in
set_option maxRecDepth 100000 in
theorem lc_14 {p : Program} {l : Launch} {e : Env} {s : State} {m : MethodId} {below : List Frame} {meth : Method} {c : Code} {b L i o : Nat} {xs : Nat → Int32} {Zx Zm : ZT} {x4 : Int32} {σx σm : SG} {f : Nat → Int64} {H : Heap} {locs : List Loc} {cells slots : Nat} {Q : State → Prop} {ls : Array Slot} (C : LC p l s m meth c b L xs) (hZ : LZ Zx Zm o s) (hi : i + 4 ≤ L) (hL : L ≤ 2048) (ex4 : x4 = nI i) (hI : LI Zx Zm o s σx σm f H locs) (hcc : cells ≤ 600000) (hss : slots ≤ 7000000) (hl : lv_has ls 8 [(0, .ref b), (1, .ref (za Zx 155)), (2, .ref (za Zm 0)), (3, .ref o), (4, .int x4)]) {r : Int32} {σx' σm' : SG} (hm0 : m_X11_families σx (xs (i + 1)) = some (r, σx')) (hm1 : m_X12_families σm (xs (i + 1)) = some (r, σm')) (kk : ∀ (H : Heap) (locs : List Loc) (ls : Array Slot), LI Zx Zm o s σx' σm' f H locs → lv_has ls 8 [(0, .ref b), (1, .ref (za Zx 155)), (2, .ref (za Zm 0)), (3, .ref o), (4, .int x4)] → W p l e room_1 s m #[Value.ref b] below meth c H locs cells slots Q (F0 m 723 ls [])) : W p l e room_1 s m #[Value.ref b] below meth c H locs cells slots Q (F0 m 648 ls []) := by
  obtain ⟨hx, hb, hr, hml, hown, hts, hX, hbl, hlocks, hst⟩ := C
  obtain ⟨hJx, hJm, hKx, hKm, hEx, hEm, -, -, -, -, -, -⟩ := id hZ
  have hbA : ¬ lA s b := Nat.not_le.mpr hbl
  have e1 : (x4 + 1).toNatClampNeg = i + 1 := by rw [ex4, nI_1]; exact nI_clamp (by omega)
  have e2 : (x4 + 2).toNatClampNeg = i + 2 := by rw [ex4, show (2 : Int32) = nI 2 from rfl, nI_add]; exact nI_clamp (by omega)
  have e3 : (x4 + 3).toNatClampNeg = i + 3 := by rw [ex4, show (3 : Int32) = nI 3 from rfl, nI_add]; exact nI_clamp (by omega)
  have in1 : vp_in (x4 + 1) L := by rw [ex4, nI_1]; exact vp_in_nI (by omega) (by omega)
  have in2 : vp_in (x4 + 2) L := by rw [ex4, show (2 : Int32) = nI 2 from rfl, nI_add]; exact vp_in_nI (by omega) (by omega)
  have in3 : vp_in (x4 + 3) L := by rw [ex4, show (3 : Int32) = nI 3 from rfl, nI_add]; exact vp_in_nI (by omega) (by omega)
  refine lv_aload_n hx hb dL_law_648 rfl (lv_at hl 1 rfl) ?_
  refine lv_aload_n hx hb dL_law_649 rfl (lv_at hl 0 rfl) ?_
  refine lv_iload hx hb dL_law_650 (lv_at hl 4 rfl) ?_
  refine lv_iconst (v := 1) hx hb dL_law_652 (by decide) ?_
  refine lv_iadd hx hb dL_law_653 ?_
  refine va_sld hx hb hX hbl hbA hI.2.2.2 in1 dL_law_654 ?_
  rw [e1]
  refine lr_xi (res := (r, σx')) hZ hI (va_runV (As := [.int (xs (i + 1))]) (rest := []) ⟨hx, hb, hml, hown, hts⟩ (k_X11_families l Zx σx (xs (i + 1)) hm0) (cwV 1 hts gL_law_X11_families rfl rfl rfl (by decide +kernel) ⟨Nat.le_of_ble_eq_true rfl, Nat.le_of_ble_eq_true rfl⟩) ⟨wx_blind, wr_recv hKx hI.1 (k := 155) (by decide) ((tX_TuneSearch Zx) _ _ _) rfl, fun U hU hW => ⟨rfl, wl_at hEx hJx hI.1 hKx hI.2.2.2 hU hW⟩⟩ rfl rfl hl.1 rfl (lv_room (Nat.le_of_ble_eq_true rfl)) dL_law_655 ⟨Nat.le_trans hcc (Nat.le_of_ble_eq_true rfl), Nat.le_trans hss (Nat.le_of_ble_eq_true rfl)⟩) (fun H locs hI => ?_)
  refine lv_aload_n hx hb dL_law_658 rfl (lv_at hl 2 rfl) ?_
  refine lv_aload_n hx hb dL_law_659 rfl (lv_at hl 0 rfl) ?_
  refine lv_iload hx hb dL_law_660 (lv_at hl 4 rfl) ?_
  refine lv_iconst (v := 1) hx hb dL_law_662 (by decide) ?_
  refine lv_iadd hx hb dL_law_663 ?_
  refine va_sld hx hb hX hbl hbA hI.2.2.2 in1 dL_law_664 ?_
  rw [e1]
  refine lr_mi (res := (r, σm')) hZ hI (va_runV (As := [.int (xs (i + 1))]) (rest := [.int r]) ⟨hx, hb, hml, hown, hts⟩ (k_X12_families l Zm σm (xs (i + 1)) hm1) (cwV 1 hts gL_law_X12_families rfl rfl rfl (by decide +kernel) ⟨Nat.le_of_ble_eq_true rfl, Nat.le_of_ble_eq_true rfl⟩) ⟨wx_blind, wr_recv hKm hI.2.1 (k := 0) (by decide) ((tM_0 Zm) _ _ _) rfl, fun U hU hW => ⟨rfl, wl_at hEm hJm hI.2.1 hKm hI.2.2.2 hU hW⟩⟩ rfl rfl hl.1 rfl (lv_room (Nat.le_of_ble_eq_true rfl)) dL_law_665 ⟨Nat.le_trans hcc (Nat.le_of_ble_eq_true rfl), Nat.le_trans hss (Nat.le_of_ble_eq_true rfl)⟩) (fun H locs hI => ?_)
  refine lv_icmp_eq (tgt := 723) hx hb dL_law_668 (by decide) (fun _ => ?_) (fun q => absurd rfl q)
  exact kk H locs ls hI hl

set_option maxHeartbeats 4000000 in
set_option maxRecDepth 100000 in
theorem lc_15 {p : Program} {l : Launch} {e : Env} {s : State} {m : MethodId} {below : List Frame} {meth : Method} {c : Code} {b L i o : Nat} {xs : Nat → Int32} {Zx Zm : ZT} {x4 : Int32} {σx σm : SG} {f : Nat → Int64} {H : Heap} {locs : List Loc} {cells slots : Nat} {Q : State → Prop} {ls : Array Slot} (C : LC p l s m meth c b L xs) (hZ : LZ Zx Zm o s) (hi : i + 4 ≤ L) (hL : L ≤ 2048) (ex4 : x4 = nI i) (hI : LI Zx Zm o s σx σm f H locs) (hcc : cells ≤ 600000) (hss : slots ≤ 7000000) (hl : lv_has ls 8 [(0, .ref b), (1, .ref (za Zx 155)), (2, .ref (za Zm 0)), (3, .ref o), (4, .int x4)]) {r : Int32} {σx' σm' : SG} (hm0 : m_X11_family σx (xs (i + 1)) = some (r, σx')) (hm1 : m_X12_family σm (xs (i + 1)) = some (r, σm')) (kk : ∀ (H : Heap) (locs : List Loc) (ls : Array Slot), LI Zx Zm o s σx' σm' f H locs → lv_has ls 8 [(0, .ref b), (1, .ref (za Zx 155)), (2, .ref (za Zm 0)), (3, .ref o), (4, .int x4)] → W p l e room_1 s m #[Value.ref b] below meth c H locs cells slots Q (F0 m 723 ls [])) : W p l e room_1 s m #[Value.ref b] below meth c H locs cells slots Q (F0 m 673 ls []) := by
  obtain ⟨hx, hb, hr, hml, hown, hts, hX, hbl, hlocks, hst⟩ := C
  obtain ⟨hJx, hJm, hKx, hKm, hEx, hEm, -, -, -, -, -, -⟩ := id hZ
  have hbA : ¬ lA s b := Nat.not_le.mpr hbl
  have e1 : (x4 + 1).toNatClampNeg = i + 1 := by rw [ex4, nI_1]; exact nI_clamp (by omega)
  have e2 : (x4 + 2).toNatClampNeg = i + 2 := by rw [ex4, show (2 : Int32) = nI 2 from rfl, nI_add]; exact nI_clamp (by omega)
  have e3 : (x4 + 3).toNatClampNeg = i + 3 := by rw [ex4, show (3 : Int32) = nI 3 from rfl, nI_add]; exact nI_clamp (by omega)
  have in1 : vp_in (x4 + 1) L := by rw [ex4, nI_1]; exact vp_in_nI (by omega) (by omega)
  have in2 : vp_in (x4 + 2) L := by rw [ex4, show (2 : Int32) = nI 2 from rfl, nI_add]; exact vp_in_nI (by omega) (by omega)
  have in3 : vp_in (x4 + 3) L := by rw [ex4, show (3 : Int32) = nI 3 from rfl, nI_add]; exact vp_in_nI (by omega) (by omega)
  refine lv_aload_n hx hb dL_law_673 rfl (lv_at hl 1 rfl) ?_
  refine lv_aload_n hx hb dL_law_674 rfl (lv_at hl 0 rfl) ?_
  refine lv_iload hx hb dL_law_675 (lv_at hl 4 rfl) ?_
  refine lv_iconst (v := 1) hx hb dL_law_677 (by decide) ?_
  refine lv_iadd hx hb dL_law_678 ?_
  refine va_sld hx hb hX hbl hbA hI.2.2.2 in1 dL_law_679 ?_
  rw [e1]
  refine lr_xi (res := (r, σx')) hZ hI (va_runV (As := [.int (xs (i + 1))]) (rest := []) ⟨hx, hb, hml, hown, hts⟩ (k_X11_family l Zx σx (xs (i + 1)) hm0) (cwV 1 hts gL_law_X11_family rfl rfl rfl (by decide +kernel) ⟨Nat.le_of_ble_eq_true rfl, Nat.le_of_ble_eq_true rfl⟩) ⟨wx_blind, wr_recv hKx hI.1 (k := 155) (by decide) ((tX_TuneSearch Zx) _ _ _) rfl, fun U hU hW => ⟨rfl, wl_at hEx hJx hI.1 hKx hI.2.2.2 hU hW⟩⟩ rfl rfl hl.1 rfl (lv_room (Nat.le_of_ble_eq_true rfl)) dL_law_680 ⟨Nat.le_trans hcc (Nat.le_of_ble_eq_true rfl), Nat.le_trans hss (Nat.le_of_ble_eq_true rfl)⟩) (fun H locs hI => ?_)
  refine lv_aload_n hx hb dL_law_683 rfl (lv_at hl 2 rfl) ?_
  refine lv_aload_n hx hb dL_law_684 rfl (lv_at hl 0 rfl) ?_
  refine lv_iload hx hb dL_law_685 (lv_at hl 4 rfl) ?_
  refine lv_iconst (v := 1) hx hb dL_law_687 (by decide) ?_
  refine lv_iadd hx hb dL_law_688 ?_
  refine va_sld hx hb hX hbl hbA hI.2.2.2 in1 dL_law_689 ?_
  rw [e1]
  refine lr_mi (res := (r, σm')) hZ hI (va_runV (As := [.int (xs (i + 1))]) (rest := [.int r]) ⟨hx, hb, hml, hown, hts⟩ (k_X12_family l Zm σm (xs (i + 1)) hm1) (cwV 1 hts gL_law_X12_family rfl rfl rfl (by decide +kernel) ⟨Nat.le_of_ble_eq_true rfl, Nat.le_of_ble_eq_true rfl⟩) ⟨wx_blind, wr_recv hKm hI.2.1 (k := 0) (by decide) ((tM_0 Zm) _ _ _) rfl, fun U hU hW => ⟨rfl, wl_at hEm hJm hI.2.1 hKm hI.2.2.2 hU hW⟩⟩ rfl rfl hl.1 rfl (lv_room (Nat.le_of_ble_eq_true rfl)) dL_law_690 ⟨Nat.le_trans hcc (Nat.le_of_ble_eq_true rfl), Nat.le_trans hss (Nat.le_of_ble_eq_true rfl)⟩) (fun H locs hI => ?_)
  refine lv_icmp_eq (tgt := 723) hx hb dL_law_693 (by decide) (fun _ => ?_) (fun q => absurd rfl q)
  exact kk H locs ls hI hl

set_option maxHeartbeats 4000000 in
set_option maxRecDepth 100000 in
theorem lc_16 {p : Program} {l : Launch} {e : Env} {s : State} {m : MethodId} {below : List Frame} {meth : Method} {c : Code} {b L i o : Nat} {xs : Nat → Int32} {Zx Zm : ZT} {x4 : Int32} {σx σm : SG} {f : Nat → Int64} {H : Heap} {locs : List Loc} {cells slots : Nat} {Q : State → Prop} {ls : Array Slot} (C : LC p l s m meth c b L xs) (hZ : LZ Zx Zm o s) (hi : i + 4 ≤ L) (hL : L ≤ 2048) (ex4 : x4 = nI i) (hI : LI Zx Zm o s σx σm f H locs) (hcc : cells ≤ 600000) (hss : slots ≤ 7000000) (hl : lv_has ls 8 [(0, .ref b), (1, .ref (za Zx 155)), (2, .ref (za Zm 0)), (3, .ref o), (4, .int x4)]) {r : Int32} {σx' σm' : SG} (hm0 : m_X11_told σx (xs (i + 1)) = some (r, σx')) (hm1 : m_X12_told σm (xs (i + 1)) = some (r, σm')) (kk : ∀ (H : Heap) (locs : List Loc) (ls : Array Slot), LI Zx Zm o s σx' σm' f H locs → lv_has ls 8 [(0, .ref b), (1, .ref (za Zx 155)), (2, .ref (za Zm 0)), (3, .ref o), (4, .int x4)] → W p l e room_1 s m #[Value.ref b] below meth c H locs cells slots Q (F0 m 723 ls [])) : W p l e room_1 s m #[Value.ref b] below meth c H locs cells slots Q (F0 m 698 ls []) := by
  obtain ⟨hx, hb, hr, hml, hown, hts, hX, hbl, hlocks, hst⟩ := C
  obtain ⟨hJx, hJm, hKx, hKm, hEx, hEm, -, -, -, -, -, -⟩ := id hZ
  have hbA : ¬ lA s b := Nat.not_le.mpr hbl
  have e1 : (x4 + 1).toNatClampNeg = i + 1 := by rw [ex4, nI_1]; exact nI_clamp (by omega)
  have e2 : (x4 + 2).toNatClampNeg = i + 2 := by rw [ex4, show (2 : Int32) = nI 2 from rfl, nI_add]; exact nI_clamp (by omega)
  have e3 : (x4 + 3).toNatClampNeg = i + 3 := by rw [ex4, show (3 : Int32) = nI 3 from rfl, nI_add]; exact nI_clamp (by omega)
  have in1 : vp_in (x4 + 1) L := by rw [ex4, nI_1]; exact vp_in_nI (by omega) (by omega)
  have in2 : vp_in (x4 + 2) L := by rw [ex4, show (2 : Int32) = nI 2 from rfl, nI_add]; exact vp_in_nI (by omega) (by omega)
  have in3 : vp_in (x4 + 3) L := by rw [ex4, show (3 : Int32) = nI 3 from rfl, nI_add]; exact vp_in_nI (by omega) (by omega)
  refine lv_aload_n hx hb dL_law_698 rfl (lv_at hl 1 rfl) ?_
  refine lv_aload_n hx hb dL_law_699 rfl (lv_at hl 0 rfl) ?_
  refine lv_iload hx hb dL_law_700 (lv_at hl 4 rfl) ?_
  refine lv_iconst (v := 1) hx hb dL_law_702 (by decide) ?_
  refine lv_iadd hx hb dL_law_703 ?_
  refine va_sld hx hb hX hbl hbA hI.2.2.2 in1 dL_law_704 ?_
  rw [e1]
  refine lr_xi (res := (r, σx')) hZ hI (va_runV (As := [.int (xs (i + 1))]) (rest := []) ⟨hx, hb, hml, hown, hts⟩ (k_X11_told l Zx σx (xs (i + 1)) hm0) (cwV 1 hts gL_law_X11_told rfl rfl rfl (by decide +kernel) ⟨Nat.le_of_ble_eq_true rfl, Nat.le_of_ble_eq_true rfl⟩) ⟨wx_blind, wr_recv hKx hI.1 (k := 155) (by decide) ((tX_TuneSearch Zx) _ _ _) rfl, fun U hU hW => ⟨rfl, wl_at hEx hJx hI.1 hKx hI.2.2.2 hU hW⟩⟩ rfl rfl hl.1 rfl (lv_room (Nat.le_of_ble_eq_true rfl)) dL_law_705 ⟨Nat.le_trans hcc (Nat.le_of_ble_eq_true rfl), Nat.le_trans hss (Nat.le_of_ble_eq_true rfl)⟩) (fun H locs hI => ?_)
  refine lv_aload_n hx hb dL_law_708 rfl (lv_at hl 2 rfl) ?_
  refine lv_aload_n hx hb dL_law_709 rfl (lv_at hl 0 rfl) ?_
  refine lv_iload hx hb dL_law_710 (lv_at hl 4 rfl) ?_
  refine lv_iconst (v := 1) hx hb dL_law_712 (by decide) ?_
  refine lv_iadd hx hb dL_law_713 ?_
  refine va_sld hx hb hX hbl hbA hI.2.2.2 in1 dL_law_714 ?_
  rw [e1]
  refine lr_mi (res := (r, σm')) hZ hI (va_runV (As := [.int (xs (i + 1))]) (rest := [.int r]) ⟨hx, hb, hml, hown, hts⟩ (k_X12_told l Zm σm (xs (i + 1)) hm1) (cwV 1 hts gL_law_X12_told rfl rfl rfl (by decide +kernel) ⟨Nat.le_of_ble_eq_true rfl, Nat.le_of_ble_eq_true rfl⟩) ⟨wx_blind, wr_recv hKm hI.2.1 (k := 0) (by decide) ((tM_0 Zm) _ _ _) rfl, fun U hU hW => ⟨rfl, wl_at hEm hJm hI.2.1 hKm hI.2.2.2 hU hW⟩⟩ rfl rfl hl.1 rfl (lv_room (Nat.le_of_ble_eq_true rfl)) dL_law_715 ⟨Nat.le_trans hcc (Nat.le_of_ble_eq_true rfl), Nat.le_trans hss (Nat.le_of_ble_eq_true rfl)⟩) (fun H locs hI => ?_)
  refine lv_icmp_eq (tgt := 723) hx hb dL_law_718 (by decide) (fun _ => ?_) (fun q => absurd rfl q)
  exact kk H locs ls hI hl

