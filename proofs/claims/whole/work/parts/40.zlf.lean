/-! ===== the law's own found and share: they put the answer into out, or tell which exception came ===== -/
def fA (Z : ZT) (o : Nat) : Nat → Prop := fun q => ws_A 211 (za Z) q ∨ q = o
def lfP (Z : ZT) (o : Nat) (f : Nat → Int64) (σ : SG) (U : State) : Prop := wx (EX Z) (zD Z) vwCl 211 (za Z) (tX Z) (tysX Z) σ U ∧ va_at (zD Z) vwCl (o, .inl (zc Z 1, 1, .inr (.inl f))) U.heap ∧ ∀ k, k < 211 → za Z k ≠ o
def lfB (Z : ZT) (o : Nat) (σ : SG) (f : Nat → Int64) (t : State) : Prop := ws_P (zD Z) vwCl 211 (za Z) (tX Z) σ t.heap ∧ va_at (zD Z) vwCl (o, .inl (zc Z 1, 1, .inr (.inl f))) t.heap
theorem lf_blind {Z : ZT} {o : Nat} {f : Nat → Int64} {σ : SG} {av : List Value} : FrameBlind (va_Pc av (lfP Z o f σ)) := fun a U g mk q => ⟨q.1, (wx_blind (av := av) a U g mk ⟨q.1, q.2.1⟩).2, q.2.2⟩
section LF
variable {p : Program} {l : Launch} {e : Env} {R : Room} {s : State} {m : MethodId} {args : Array Value} {below : List Frame} {meth : Method} {c : Code} {H : Heap} {locs : List Loc} {cells slots : Nat} {Q : State → Prop}
variable {cc : ByteArray} {pc : Nat} {ls : Array Slot} {rest : List Value} {Z : ZT} {o : Nat} {σ : SG} {f : Nat → Int64} {H0 : Heap}
theorem lr_out (hx : p.tables.exec = Jvm.exec) (hb : c.code = cc) (hK : va_K (zD Z) vwCl (tysX Z) s) (hJ : ws_J 211 (za Z)) (hP : ws_P (zD Z) vwCl 211 (za Z) (tX Z) σ H) (ho : va_at (zD Z) vwCl (o, .inl (zc Z 1, 1, .inr (.inl f))) H) (hne : ∀ k, k < 211 → za Z k ≠ o) (hS : va_S (fA Z o) H0 H locs) {x : Int64} (hdg : decode cc pc = .ok (.lastore, 1))
    (kk : ∀ (H1 : Heap) (locs1 : List Loc), ws_P (zD Z) vwCl 211 (za Z) (tX Z) σ H1 → va_at (zD Z) vwCl (o, .inl (zc Z 1, 1, .inr (.inl (vp_updL f 0 x)))) H1 → va_S (fA Z o) H0 H1 locs1 → W p l e R s m args below meth c H1 locs1 cells slots Q (F0 m (pc + 1) ls rest)) : W p l e R s m args below meth c H locs cells slots Q (F0 m pc ls (.long x :: .int 0 :: .ref o :: rest)) := by
  have hlen : (ws_W 211 (za Z) (ws_h (tX Z) σ)).length = 211 := by simp [ws_W]
  have hP' : va_P (zD Z) vwCl (ws_W 211 (za Z) (ws_h (tX Z) σ) ++ [(o, .inl (zc Z 1, 1, .inr (.inl f)))]) H := va_P.app hP (fun k q hk => by
    have h0 : k < 1 := (List.getElem?_eq_some_iff.mp hk).1
    rw [show k = 0 by omega] at hk
    cases hk
    exact ho)
  have hD' : va_D (fA Z o) (ws_W 211 (za Z) (ws_h (tX Z) σ) ++ [(o, .inl (zc Z 1, 1, .inr (.inl f)))]) := va_D.app ((ws_D hJ).weaken (fun k q _ h => Or.inl h)) ⟨fun i j p q hi hj _ => by
      have h0 : i < 1 := (List.getElem?_eq_some_iff.mp hi).1
      have h1 : j < 1 := (List.getElem?_eq_some_iff.mp hj).1
      omega, fun k q hk => by
      have h0 : k < 1 := (List.getElem?_eq_some_iff.mp hk).1
      rw [show k = 0 by omega] at hk
      cases hk
      exact Or.inr rfl⟩ (fun i j p q hi hj => by
      obtain ⟨h1, rfl⟩ := ws_inv hi
      have h0 : j < 1 := (List.getElem?_eq_some_iff.mp hj).1
      rw [show j = 0 by omega] at hj
      cases hj
      exact hne i h1)
  refine va_last hx hb hK hP' hD' hS 211 1 (f := f) (n := 1) (by rw [List.getElem?_append_right (by omega), hlen]; rfl) rfl (by unfold vp_in; decide) hdg (fun H1 locs1 h1 _ h3 => ?_)
  rw [List.set_append_right _ _ (by omega), hlen] at h1
  refine kk H1 locs1 (fun k q hk => h1 k q ?_) (h1 211 _ ?_) h3
  · rw [List.getElem?_append_left (List.getElem?_eq_some_iff.mp hk).1]
    exact hk
  · rw [List.getElem?_append_right (by omega), hlen]
    rfl
end LF
abbrev rm_lf : Room := { frames := 20, cells := 1, slots := 6, locals := 2000 }
set_option maxHeartbeats 4000000 in
set_option maxRecDepth 100000 in
theorem k_L_found_v (l : Launch) (hst : l.stackTraces = false) (Z : ZT) (o : Nat) (σ σ' : SG) (p0 p1 : Int32) (f : Nat → Int64) (v : Int32) (h : m_X11_found σ p0 p1 = some (.inl v, σ')) : Met l yL_found wsL_found rm_lf (va_Pc [.ref (za Z 155), .int p0, .int p1, .ref o] (lfP Z o f σ)) (va_Qi (fun r (_ : Unit) => r = 0) (fun _ => lfB Z o σ' (vp_updL f 0 v.toInt64)) (fA Z o)) 1 6 (fA Z o) := by
  refine va_MetW (cc := cL_found) (maxL := 5) (ret := some .int) (by decide) rfl ?_
  intro p e s m args below meth c s₁ B hml hv
  obtain ⟨rfl, ⟨hE, hJ, hP, hK⟩, ho, hne⟩ := hv
  have hx := B.exec
  have hb := B.bytes
  have hr := B.returns
  have hlocks := B.notSynchronized
  have hts := atoms_spec (ws := wsL_found) B.pre
  have hown : s.vm.findClass RL = some m.cls := findClass_of_methodNamed B.named
  have hS : va_S (fA Z o) s.heap s.heap [] := va_S.rf
  have hl := lv_entry ([.ref (za Z 155), .int p0, .int p1, .ref o]) (n := 5) (Nat.le_of_ble_eq_true rfl)
  rw [lg_entry_eq]
  generalize (lg_sl ([.ref (za Z 155), .int p0, .int p1, .ref o]) ++ List.replicate (5 - (lg_sl ([.ref (za Z 155), .int p0, .int p1, .ref o])).length) Slot.unset).toArray = ls at hl ⊢
  have hl : lv_has ls 5 [(0, .ref (za Z 155)), (1, .int p0), (2, .int p1), (3, .ref o)] := hl
  refine lv_aload_n hx hb dL_found_0 rfl (lv_at hl 3 rfl) ?_
  refine lv_iconst (v := 0) hx hb dL_found_1 (by decide) ?_
  refine lv_aload_n hx hb dL_found_2 rfl (lv_at hl 0 rfl) ?_
  refine lv_iload_n hx hb dL_found_3 rfl (lv_at hl 1 rfl) ?_
  refine lv_iload_n hx hb dL_found_4 rfl (lv_at hl 2 rfl) ?_
  refine vx_calli (vx_runV (As := [.int p0, .int p1]) (rest := [.int 0, .ref o]) ⟨hx, hb, hml, hown, hts⟩ (k_X11_found l Z σ p0 p1 hst h) (cwV 2 hts gL_found_X11_found rfl rfl rfl (by decide +kernel) ⟨Nat.le_of_ble_eq_true rfl, Nat.le_of_ble_eq_true rfl⟩) ⟨wx_blind, wr_recv hK hP (k := 155) (by decide) ((tX_TuneSearch Z) _ _ _) rfl, fun U hU hW => ⟨rfl, ⟨⟨hE.1, hE.1 _ s U _ _ hW (fun a _ _ => by rw [hU]) hE.2⟩, hJ, by rw [hU]; exact hP, va_K.moved hW.alike hK⟩⟩⟩ rfl rfl hl.1 rfl (lv_room (Nat.le_of_ble_eq_true rfl)) dL_found_5 ⟨Nat.le_of_ble_eq_true rfl, Nat.le_of_ble_eq_true rfl⟩) hS (fun q _ h => Or.inl h) (fun q h => Or.inl h) (fun q _ h => Or.inl h) (fun E9 ce q9 u t H1 locs1 ht hvm hpx hBX hz1 hk1 hS hce hcv hcl => ?_) (fun r u t H1 locs1 ht hvm hpost hB hz1 hk1 hS => ?_)
  · cases hpx
  · cases hpost
    have hP1 := hB.2.2.1
    rw [ht] at hP1
    have ho1 := ho.kept (hk1 o ho.lt (fun ⟨k, h1, h2⟩ => hne k h1 h2.symm))
    refine lv_i2l hx hb dL_found_8 rfl ?_
    refine lr_out hx hb hK hJ hP1 ho1 hne hS dL_found_9 (fun H locs hP ho hS => ?_)
    refine lv_goto (tgt := 17) hx hb dL_found_10 (by decide) ?_
    refine lv_iconst (v := 0) hx hb dL_found_17 (by decide) ?_
    exact W.iret (v := 0) hx hb hr (fun t ht hW => ⟨⟨0, (), rfl, rfl, by rw [← ht] at hP ho; exact ⟨hP, ho⟩⟩, hS.F ht⟩) hS.2.2 dL_found_18
set_option maxHeartbeats 4000000 in
set_option maxRecDepth 100000 in
theorem k_L_found_x (l : Launch) (hst : l.stackTraces = false) (Z : ZT) (o : Nat) (σ σ' : SG) (p0 p1 : Int32) (f : Nat → Int64) (h : m_X11_found σ p0 p1 = some (.inr true, σ')) : Met l yL_found wsL_found rm_lf (va_Pc [.ref (za Z 155), .int p0, .int p1, .ref o] (lfP Z o f σ)) (va_Qi (fun r (_ : Unit) => r = 1) (fun _ => lfB Z o σ' f) (fA Z o)) 1 6 (fA Z o) := by
  refine va_MetW (cc := cL_found) (maxL := 5) (ret := some .int) (by decide) rfl ?_
  intro p e s m args below meth c s₁ B hml hv
  obtain ⟨rfl, ⟨hE, hJ, hP, hK⟩, ho, hne⟩ := hv
  have hx := B.exec
  have hb := B.bytes
  have hr := B.returns
  have hlocks := B.notSynchronized
  have hts := atoms_spec (ws := wsL_found) B.pre
  have hown : s.vm.findClass RL = some m.cls := findClass_of_methodNamed B.named
  have hS : va_S (fA Z o) s.heap s.heap [] := va_S.rf
  have hl := lv_entry ([.ref (za Z 155), .int p0, .int p1, .ref o]) (n := 5) (Nat.le_of_ble_eq_true rfl)
  rw [lg_entry_eq]
  generalize (lg_sl ([.ref (za Z 155), .int p0, .int p1, .ref o]) ++ List.replicate (5 - (lg_sl ([.ref (za Z 155), .int p0, .int p1, .ref o])).length) Slot.unset).toArray = ls at hl ⊢
  have hl : lv_has ls 5 [(0, .ref (za Z 155)), (1, .int p0), (2, .int p1), (3, .ref o)] := hl
  refine lv_aload_n hx hb dL_found_0 rfl (lv_at hl 3 rfl) ?_
  refine lv_iconst (v := 0) hx hb dL_found_1 (by decide) ?_
  refine lv_aload_n hx hb dL_found_2 rfl (lv_at hl 0 rfl) ?_
  refine lv_iload_n hx hb dL_found_3 rfl (lv_at hl 1 rfl) ?_
  refine lv_iload_n hx hb dL_found_4 rfl (lv_at hl 2 rfl) ?_
  refine vx_calli (vx_runV (As := [.int p0, .int p1]) (rest := [.int 0, .ref o]) ⟨hx, hb, hml, hown, hts⟩ (k_X11_found l Z σ p0 p1 hst h) (cwV 2 hts gL_found_X11_found rfl rfl rfl (by decide +kernel) ⟨Nat.le_of_ble_eq_true rfl, Nat.le_of_ble_eq_true rfl⟩) ⟨wx_blind, wr_recv hK hP (k := 155) (by decide) ((tX_TuneSearch Z) _ _ _) rfl, fun U hU hW => ⟨rfl, ⟨⟨hE.1, hE.1 _ s U _ _ hW (fun a _ _ => by rw [hU]) hE.2⟩, hJ, by rw [hU]; exact hP, va_K.moved hW.alike hK⟩⟩⟩ rfl rfl hl.1 rfl (lv_room (Nat.le_of_ble_eq_true rfl)) dL_found_5 ⟨Nat.le_of_ble_eq_true rfl, Nat.le_of_ble_eq_true rfl⟩) hS (fun q _ h => Or.inl h) (fun q h => Or.inl h) (fun q _ h => Or.inl h) (fun E9 ce q9 u t H1 locs1 ht hvm hpx hBX hz1 hk1 hS hce hcv hcl => ?_) (fun r u t H1 locs1 ht hvm hpost hB hz1 hk1 hS => ?_)
  · obtain ⟨b9, σ9⟩ := u
    cases hpx
    obtain ⟨rfl, hP1⟩ := hBX
    rw [ht] at hP1
    have ho1 := ho.kept (hk1 o ho.lt (fun ⟨k, h1, h2⟩ => hne k h1 h2.symm))
    have htab := vx_table (x := yL_found) B (hts (.codeWith yL_found cL_found 5 (some .int) [(0, 10, 13, 13)]) List.mem_cons_self)
    refine vx_catch (name := "java/lang/IndexOutOfBoundsException") hown [] ⟨0, 10, 13, 13⟩ [] (htab.trans rfl) (fun z hz => by cases hz) (by decide) (by decide) (hts (.classLink RL 13 "java/lang/IndexOutOfBoundsException") (by decide +kernel)) (va_Nw.use rfl hE.2.2.2.2.2.2.2.2.2.2.1) hce hcv hcl ?_
    refine lv_astore (lv' := [(4, .ref q9), (0, .ref (za Z 155)), (1, .int p0), (2, .int p1), (3, .ref o)]) hx hb dL_found_13 hl (by decide) rfl (fun ls hl => ?_)
    refine lv_iconst (v := 1) hx hb dL_found_15 (by decide) ?_
    exact W.iret (v := 1) hx hb hr (fun t ht hW => ⟨⟨1, (), rfl, rfl, by rw [← ht] at hP1 ho1; exact ⟨hP1, ho1⟩⟩, hS.F ht⟩) hS.2.2 dL_found_16
  · cases hpost
set_option maxHeartbeats 4000000 in
set_option maxRecDepth 100000 in
theorem k_L_share_v (l : Launch) (hst : l.stackTraces = false) (Z : ZT) (o : Nat) (σ σ' : SG) (p0 p1 : Int32) (f : Nat → Int64) (v : Int64) (h : m_X11_share σ p0 p1 = some (.inl v, σ')) : Met l yL_share wsL_share rm_lf (va_Pc [.ref (za Z 155), .int p0, .int p1, .ref o] (lfP Z o f σ)) (va_Qi (fun r (_ : Unit) => r = 0) (fun _ => lfB Z o σ' (vp_updL f 0 v)) (fA Z o)) 1 6 (fA Z o) := by
  refine va_MetW (cc := cL_share) (maxL := 5) (ret := some .int) (by decide) rfl ?_
  intro p e s m args below meth c s₁ B hml hv
  obtain ⟨rfl, ⟨hE, hJ, hP, hK⟩, ho, hne⟩ := hv
  have hx := B.exec
  have hb := B.bytes
  have hr := B.returns
  have hlocks := B.notSynchronized
  have hts := atoms_spec (ws := wsL_share) B.pre
  have hown : s.vm.findClass RL = some m.cls := findClass_of_methodNamed B.named
  have hS : va_S (fA Z o) s.heap s.heap [] := va_S.rf
  have hl := lv_entry ([.ref (za Z 155), .int p0, .int p1, .ref o]) (n := 5) (Nat.le_of_ble_eq_true rfl)
  rw [lg_entry_eq]
  generalize (lg_sl ([.ref (za Z 155), .int p0, .int p1, .ref o]) ++ List.replicate (5 - (lg_sl ([.ref (za Z 155), .int p0, .int p1, .ref o])).length) Slot.unset).toArray = ls at hl ⊢
  have hl : lv_has ls 5 [(0, .ref (za Z 155)), (1, .int p0), (2, .int p1), (3, .ref o)] := hl
  refine lv_aload_n hx hb dL_share_0 rfl (lv_at hl 3 rfl) ?_
  refine lv_iconst (v := 0) hx hb dL_share_1 (by decide) ?_
  refine lv_aload_n hx hb dL_share_2 rfl (lv_at hl 0 rfl) ?_
  refine lv_iload_n hx hb dL_share_3 rfl (lv_at hl 1 rfl) ?_
  refine lv_iload_n hx hb dL_share_4 rfl (lv_at hl 2 rfl) ?_
  refine vx_calll (vx_runV (As := [.int p0, .int p1]) (rest := [.int 0, .ref o]) ⟨hx, hb, hml, hown, hts⟩ (k_X11_share l Z σ p0 p1 hst h) (cwV 2 hts gL_share_X11_share rfl rfl rfl (by decide +kernel) ⟨Nat.le_of_ble_eq_true rfl, Nat.le_of_ble_eq_true rfl⟩) ⟨wx_blind, wr_recv hK hP (k := 155) (by decide) ((tX_TuneSearch Z) _ _ _) rfl, fun U hU hW => ⟨rfl, ⟨⟨hE.1, hE.1 _ s U _ _ hW (fun a _ _ => by rw [hU]) hE.2⟩, hJ, by rw [hU]; exact hP, va_K.moved hW.alike hK⟩⟩⟩ rfl rfl hl.1 rfl (lv_room (Nat.le_of_ble_eq_true rfl)) dL_share_5 ⟨Nat.le_of_ble_eq_true rfl, Nat.le_of_ble_eq_true rfl⟩) hS (fun q _ h => Or.inl h) (fun q h => Or.inl h) (fun q _ h => Or.inl h) (fun E9 ce q9 u t H1 locs1 ht hvm hpx hBX hz1 hk1 hS hce hcv hcl => ?_) (fun r u t H1 locs1 ht hvm hpost hB hz1 hk1 hS => ?_)
  · cases hpx
  · cases hpost
    have hP1 := hB.2.2.1
    rw [ht] at hP1
    have ho1 := ho.kept (hk1 o ho.lt (fun ⟨k, h1, h2⟩ => hne k h1 h2.symm))
    refine lr_out hx hb hK hJ hP1 ho1 hne hS dL_share_8 (fun H locs hP ho hS => ?_)
    refine lv_goto (tgt := 20) hx hb dL_share_9 (by decide) ?_
    refine lv_iconst (v := 0) hx hb dL_share_20 (by decide) ?_
    exact W.iret (v := 0) hx hb hr (fun t ht hW => ⟨⟨0, (), rfl, rfl, by rw [← ht] at hP ho; exact ⟨hP, ho⟩⟩, hS.F ht⟩) hS.2.2 dL_share_21
set_option maxHeartbeats 4000000 in
set_option maxRecDepth 100000 in
theorem k_L_share_x (l : Launch) (hst : l.stackTraces = false) (Z : ZT) (o : Nat) (σ σ' : SG) (p0 p1 : Int32) (f : Nat → Int64) (h : m_X11_share σ p0 p1 = some (.inr true, σ')) : Met l yL_share wsL_share rm_lf (va_Pc [.ref (za Z 155), .int p0, .int p1, .ref o] (lfP Z o f σ)) (va_Qi (fun r (_ : Unit) => r = 1) (fun _ => lfB Z o σ' f) (fA Z o)) 1 6 (fA Z o) := by
  refine va_MetW (cc := cL_share) (maxL := 5) (ret := some .int) (by decide) rfl ?_
  intro p e s m args below meth c s₁ B hml hv
  obtain ⟨rfl, ⟨hE, hJ, hP, hK⟩, ho, hne⟩ := hv
  have hx := B.exec
  have hb := B.bytes
  have hr := B.returns
  have hlocks := B.notSynchronized
  have hts := atoms_spec (ws := wsL_share) B.pre
  have hown : s.vm.findClass RL = some m.cls := findClass_of_methodNamed B.named
  have hS : va_S (fA Z o) s.heap s.heap [] := va_S.rf
  have hl := lv_entry ([.ref (za Z 155), .int p0, .int p1, .ref o]) (n := 5) (Nat.le_of_ble_eq_true rfl)
  rw [lg_entry_eq]
  generalize (lg_sl ([.ref (za Z 155), .int p0, .int p1, .ref o]) ++ List.replicate (5 - (lg_sl ([.ref (za Z 155), .int p0, .int p1, .ref o])).length) Slot.unset).toArray = ls at hl ⊢
  have hl : lv_has ls 5 [(0, .ref (za Z 155)), (1, .int p0), (2, .int p1), (3, .ref o)] := hl
  refine lv_aload_n hx hb dL_share_0 rfl (lv_at hl 3 rfl) ?_
  refine lv_iconst (v := 0) hx hb dL_share_1 (by decide) ?_
  refine lv_aload_n hx hb dL_share_2 rfl (lv_at hl 0 rfl) ?_
  refine lv_iload_n hx hb dL_share_3 rfl (lv_at hl 1 rfl) ?_
  refine lv_iload_n hx hb dL_share_4 rfl (lv_at hl 2 rfl) ?_
  refine vx_calll (vx_runV (As := [.int p0, .int p1]) (rest := [.int 0, .ref o]) ⟨hx, hb, hml, hown, hts⟩ (k_X11_share l Z σ p0 p1 hst h) (cwV 2 hts gL_share_X11_share rfl rfl rfl (by decide +kernel) ⟨Nat.le_of_ble_eq_true rfl, Nat.le_of_ble_eq_true rfl⟩) ⟨wx_blind, wr_recv hK hP (k := 155) (by decide) ((tX_TuneSearch Z) _ _ _) rfl, fun U hU hW => ⟨rfl, ⟨⟨hE.1, hE.1 _ s U _ _ hW (fun a _ _ => by rw [hU]) hE.2⟩, hJ, by rw [hU]; exact hP, va_K.moved hW.alike hK⟩⟩⟩ rfl rfl hl.1 rfl (lv_room (Nat.le_of_ble_eq_true rfl)) dL_share_5 ⟨Nat.le_of_ble_eq_true rfl, Nat.le_of_ble_eq_true rfl⟩) hS (fun q _ h => Or.inl h) (fun q h => Or.inl h) (fun q _ h => Or.inl h) (fun E9 ce q9 u t H1 locs1 ht hvm hpx hBX hz1 hk1 hS hce hcv hcl => ?_) (fun r u t H1 locs1 ht hvm hpost hB hz1 hk1 hS => ?_)
  · obtain ⟨b9, σ9⟩ := u
    cases hpx
    obtain ⟨rfl, hP1⟩ := hBX
    rw [ht] at hP1
    have ho1 := ho.kept (hk1 o ho.lt (fun ⟨k, h1, h2⟩ => hne k h1 h2.symm))
    have htab := vx_table (x := yL_share) B (hts (.codeWith yL_share cL_share 5 (some .int) [(0, 9, 12, 13), (0, 9, 16, 19)]) List.mem_cons_self)
    refine vx_catch (name := "java/lang/IndexOutOfBoundsException") hown [] ⟨0, 9, 12, 13⟩ [⟨0, 9, 16, 19⟩] (htab.trans rfl) (fun z hz => by cases hz) (by decide) (by decide) (hts (.classLink RL 13 "java/lang/IndexOutOfBoundsException") (by decide +kernel)) (va_Nw.use rfl hE.2.2.2.2.2.2.2.2.2.2.1) hce hcv hcl ?_
    refine lv_astore (lv' := [(4, .ref q9), (0, .ref (za Z 155)), (1, .int p0), (2, .int p1), (3, .ref o)]) hx hb dL_share_12 hl (by decide) rfl (fun ls hl => ?_)
    refine lv_iconst (v := 1) hx hb dL_share_14 (by decide) ?_
    exact W.iret (v := 1) hx hb hr (fun t ht hW => ⟨⟨1, (), rfl, rfl, by rw [← ht] at hP1 ho1; exact ⟨hP1, ho1⟩⟩, hS.F ht⟩) hS.2.2 dL_share_15
  · cases hpost
set_option maxHeartbeats 4000000 in
set_option maxRecDepth 100000 in
theorem k_L_share_y (l : Launch) (hst : l.stackTraces = false) (Z : ZT) (o : Nat) (σ σ' : SG) (p0 p1 : Int32) (f : Nat → Int64) (h : m_X11_share σ p0 p1 = some (.inr false, σ')) : Met l yL_share wsL_share rm_lf (va_Pc [.ref (za Z 155), .int p0, .int p1, .ref o] (lfP Z o f σ)) (va_Qi (fun r (_ : Unit) => r = 2) (fun _ => lfB Z o σ' f) (fA Z o)) 1 6 (fA Z o) := by
  refine va_MetW (cc := cL_share) (maxL := 5) (ret := some .int) (by decide) rfl ?_
  intro p e s m args below meth c s₁ B hml hv
  obtain ⟨rfl, ⟨hE, hJ, hP, hK⟩, ho, hne⟩ := hv
  have hx := B.exec
  have hb := B.bytes
  have hr := B.returns
  have hlocks := B.notSynchronized
  have hts := atoms_spec (ws := wsL_share) B.pre
  have hown : s.vm.findClass RL = some m.cls := findClass_of_methodNamed B.named
  have hS : va_S (fA Z o) s.heap s.heap [] := va_S.rf
  have hl := lv_entry ([.ref (za Z 155), .int p0, .int p1, .ref o]) (n := 5) (Nat.le_of_ble_eq_true rfl)
  rw [lg_entry_eq]
  generalize (lg_sl ([.ref (za Z 155), .int p0, .int p1, .ref o]) ++ List.replicate (5 - (lg_sl ([.ref (za Z 155), .int p0, .int p1, .ref o])).length) Slot.unset).toArray = ls at hl ⊢
  have hl : lv_has ls 5 [(0, .ref (za Z 155)), (1, .int p0), (2, .int p1), (3, .ref o)] := hl
  refine lv_aload_n hx hb dL_share_0 rfl (lv_at hl 3 rfl) ?_
  refine lv_iconst (v := 0) hx hb dL_share_1 (by decide) ?_
  refine lv_aload_n hx hb dL_share_2 rfl (lv_at hl 0 rfl) ?_
  refine lv_iload_n hx hb dL_share_3 rfl (lv_at hl 1 rfl) ?_
  refine lv_iload_n hx hb dL_share_4 rfl (lv_at hl 2 rfl) ?_
  refine vx_calll (vx_runV (As := [.int p0, .int p1]) (rest := [.int 0, .ref o]) ⟨hx, hb, hml, hown, hts⟩ (k_X11_share l Z σ p0 p1 hst h) (cwV 2 hts gL_share_X11_share rfl rfl rfl (by decide +kernel) ⟨Nat.le_of_ble_eq_true rfl, Nat.le_of_ble_eq_true rfl⟩) ⟨wx_blind, wr_recv hK hP (k := 155) (by decide) ((tX_TuneSearch Z) _ _ _) rfl, fun U hU hW => ⟨rfl, ⟨⟨hE.1, hE.1 _ s U _ _ hW (fun a _ _ => by rw [hU]) hE.2⟩, hJ, by rw [hU]; exact hP, va_K.moved hW.alike hK⟩⟩⟩ rfl rfl hl.1 rfl (lv_room (Nat.le_of_ble_eq_true rfl)) dL_share_5 ⟨Nat.le_of_ble_eq_true rfl, Nat.le_of_ble_eq_true rfl⟩) hS (fun q _ h => Or.inl h) (fun q h => Or.inl h) (fun q _ h => Or.inl h) (fun E9 ce q9 u t H1 locs1 ht hvm hpx hBX hz1 hk1 hS hce hcv hcl => ?_) (fun r u t H1 locs1 ht hvm hpost hB hz1 hk1 hS => ?_)
  · obtain ⟨b9, σ9⟩ := u
    cases hpx
    obtain ⟨rfl, hP1⟩ := hBX
    rw [ht] at hP1
    have ho1 := ho.kept (hk1 o ho.lt (fun ⟨k, h1, h2⟩ => hne k h1 h2.symm))
    have htab := vx_table (x := yL_share) B (hts (.codeWith yL_share cL_share 5 (some .int) [(0, 9, 12, 13), (0, 9, 16, 19)]) List.mem_cons_self)
    refine vx_catch (name := "java/lang/ArithmeticException") hown [⟨0, 9, 12, 13⟩] ⟨0, 9, 16, 19⟩ [] (htab.trans rfl) (fun z hz => by
      rw [List.mem_singleton.mp hz]
      exact Or.inr ⟨by decide, "java/lang/IndexOutOfBoundsException", hts (.classLink RL 13 "java/lang/IndexOutOfBoundsException") (by decide +kernel), hE.2.2.2.2.2.2.1⟩) (by decide) (by decide) (hts (.classLink RL 19 "java/lang/ArithmeticException") (by decide +kernel)) (va_Nw.use rfl hE.2.2.2.2.2.2.2.2.2.2.2) hce hcv hcl ?_
    refine lv_astore (lv' := [(4, .ref q9), (0, .ref (za Z 155)), (1, .int p0), (2, .int p1), (3, .ref o)]) hx hb dL_share_16 hl (by decide) rfl (fun ls hl => ?_)
    refine lv_iconst (v := 2) hx hb dL_share_18 (by decide) ?_
    exact W.iret (v := 2) hx hb hr (fun t ht hW => ⟨⟨2, (), rfl, rfl, by rw [← ht] at hP1 ho1; exact ⟨hP1, ho1⟩⟩, hS.F ht⟩) hS.2.2 dL_share_19
  · cases hpost
