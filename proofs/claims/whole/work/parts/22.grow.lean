/-! ===== worlds that grow: n cells from b on; the next one that is made lies at b + n ===== -/
def gw (D : va_G) (cl : List vw_C) (b n : Nat) (hp : Nat → va_E) (H : Heap) : Prop := va_P D cl (ws_W n (fun k => b + k) hp) H ∧ H.size = b + n
abbrev gA (b : Nat) : Nat → Prop := fun q => b ≤ q
theorem gw_J (b n : Nat) : ws_J n (fun k => b + k) := fun i j _ _ h => by
  have h2 : b + i = b + j := h
  omega
theorem gw_D {b n : Nat} {hp : Nat → va_E} : va_D (gA b) (ws_W n (fun k => b + k) hp) := (ws_D (gw_J b n)).weaken (fun k q hk h => by
  obtain ⟨j, -, e⟩ := h
  have e2 : q.1 = b + j := e
  show b ≤ q.1
  omega)
theorem gw_push {D : va_G} {cl : List vw_C} {b n : Nat} {hp : Nat → va_E} {H H1 : Heap} {e : va_E} (hG : gw D cl b n hp H) (he : va_at D cl (b + n, e) H1) (hz : H1.size = H.size + 1) (ho : ∀ q : Nat, q < H.size → H1[q]? = H[q]?) : gw D cl b (n + 1) (va_up hp n e) H1 := by
  refine ⟨fun k q hk => ?_, by rw [hz, hG.2]; omega⟩
  obtain ⟨h1, rfl⟩ := ws_inv hk
  by_cases e2 : k = n
  · subst e2
    rw [va_up_self]
    exact he
  · have hk2 : k < n := by omega
    rw [va_up_ne _ _ e2]
    exact (hG.1 k _ (ws_get hk2)).kept (ho (b + k) (by rw [hG.2]; omega))
theorem gw_S {b : Nat} {H0 H H1 : Heap} {locs : List Loc} (hS : va_S (gA b) H0 H locs) (hz : H.size ≤ H1.size) (ho : ∀ q : Nat, q < H.size → H1[q]? = H[q]?) : va_S (gA b) H0 H1 locs :=
  ⟨Nat.le_trans hS.1 hz, fun x h1 h2 => (ho x (Nat.lt_of_lt_of_le h1 hS.1)).trans (hS.2.1 x h1 h2), hS.2.2⟩
section GR
variable {p : Program} {l : Launch} {e : Env} {R : Room} {s : State} {m : MethodId} {args : Array Value} {below : List Frame} {meth : Method} {c : Code} {H : Heap} {locs : List Loc} {cells slots : Nat} {Q : State → Prop}
variable {cc : ByteArray} {pc : Nat} {ls : Array Slot} {rest : List Value} {D : va_G} {cl : List vw_C} {b n : Nat} {hp : Nat → va_E} {tys : List (ClassId × FieldType)} {H0 : Heap}
theorem gz_new (hx : p.tables.exec = Jvm.exec) (hb : c.code = cc) {own C : String} {T : u_T} {N ci index : Nat} {Ts : List Cond} (hts : ∀ w ∈ Ts, w.before args s = true) (hin : ∀ w ∈ u_ws C T N, w ∈ Ts) (ty : Nat → FieldType) (hty : ∀ k, k < N → parseFieldDescriptor (T k).2.2.1 = some (ty k)) (hown : s.vm.findClass own = some m.cls) (hcl : (Cond.classLink own index C).before args s = true) (hinst : (Cond.instantiable C N).before args s = true) (hini : (Cond.initialized C).before args s = true)
    (hK : va_K D cl tys s) (hG : gw D cl b n hp H) (hS : va_S (gA b) H0 H locs) (hc : cl[ci]? = some (C, T, N)) {fs : List Value} (hfs : ∀ j, j < N → defaultValue (ty j) = vp_V fs j) (hcells : cells + 1 ≤ R.cells) (hslots : slots + N ≤ R.slots) (hdg : decode cc pc = .ok (.new index, 3))
    (kk : ∀ (H1 : Heap), gw D cl b (n + 1) (va_up hp n (.inr (ci, fs))) H1 → va_S (gA b) H0 H1 locs → W p l e R s m args below meth c H1 locs (cells + 1) (slots + N) Q (F0 m (pc + 3) ls (.ref (b + n) :: rest))) : W p l e R s m args below meth c H locs cells slots Q (F0 m pc ls rest) := by
  have hKn := hK.1 ci _ hc
  refine W.newcK hx hb hown hcl hinst hini rfl hdg hcells hslots hKn.2.1 rfl fun H1 kC hkC e1 z1 o1 => ?_
  have hz : H1.size = H.size + 1 := z1
  have k2 := kk H1 (gw_push hG ⟨_, hc, by
    have h9 := (u_born ty hts hin hKn hkC e1 hty).to hfs
    rw [hG.2] at h9
    exact h9⟩ hz o1) (gw_S hS (by omega) o1)
  rw [← hG.2] at k2
  exact k2
theorem gz_newa (hx : p.tables.exec = Jvm.exec) (hb : c.code = cc) {atype : ArrayType} (harr : (Cond.arrayClass (newarray.typeOf atype)).before args s = true) {ty : FieldType} (hty : newarray.typeOf atype = ty) (hK : va_K D cl tys s) (t0 : Nat) {cA : ClassId} (ht : tys[t0]? = some (cA, ty)) (hra : va_RA s cA ty → s.vm.findClass ("[" ++ ty.toString) = some cA) (hG : gw D cl b n hp H) (hS : va_S (gA b) H0 H locs)
    {k : Int32} {N : Nat} {a0 : vp_A} (ha : ∀ cA : ClassId, vp_cell cA a0 = arrV cA N (fun _ => defaultValue ty)) (hn : ¬ k < 0) (hN : k.toNatClampNeg = N) (hbytes : N * componentBytes ty ≤ 536870912) (hcells : cells + 1 ≤ R.cells) (hslots : slots + N ≤ R.slots) (hdg : decode cc pc = .ok (.newarray atype, 2))
    (kk : ∀ (H1 : Heap), gw D cl b (n + 1) (va_up hp n (.inl (cA, a0))) H1 → va_S (gA b) H0 H1 locs → W p l e R s m args below meth c H1 locs (cells + 1) (slots + N) Q (F0 m (pc + 2) ls (.ref (b + n) :: rest))) : W p l e R s m args below meth c H locs cells slots Q (F0 m pc ls (.int k :: rest)) := by
  subst hty
  refine va_newaK hx hb harr rfl hdg rfl hn hN hbytes hcells hslots rfl fun H1 cA2 e1 z1 o1 hAr hNm => ?_
  have ec : cA2 = cA := Option.some.inj (hNm.symm.trans (hra (hK.2 t0 _ ht).2))
  subst ec
  have k2 := kk H1 (gw_push hG (by
    show H1[b + n]? = some (vp_cell cA2 a0)
    rw [ha, ← hG.2]
    exact e1) z1 o1) (gw_S hS (by omega) o1)
  rw [← hG.2] at k2
  exact k2
theorem gz_newq (hx : p.tables.exec = Jvm.exec) (hb : c.code = cc) {own C : String} {index : Nat} (hown : s.vm.findClass own = some m.cls) (hclink : (Cond.classLink own index C).before args s = true) (hover : (Cond.arrayOver (.object C)).before args s = true) (hK : va_K D cl tys s) (t0 : Nat) {cA : ClassId} (ht : tys[t0]? = some (cA, .object C)) (hG : gw D cl b n hp H) (hS : va_S (gA b) H0 H locs)
    {k : Int32} {N : Nat} (hn : ¬ k < 0) (hN : k.toNatClampNeg = N) (hbytes : N * 4 ≤ 536870912) (hcells : cells + 1 ≤ R.cells) (hslots : slots + N ≤ R.slots) (hdg : decode cc pc = .ok (.anewarray index, 3))
    (kk : ∀ (H1 : Heap), gw D cl b (n + 1) (va_up hp n (.inl (cA, N, .inr (.inr (.inr (.inr (fun _ => none))))))) H1 → va_S (gA b) H0 H1 locs → W p l e R s m args below meth c H1 locs (cells + 1) (slots + N) Q (F0 m (pc + 3) ls (.ref (b + n) :: rest))) : W p l e R s m args below meth c H locs cells slots Q (F0 m pc ls (.int k :: rest)) := by
  subst hN
  refine W.anew hx hb hown hclink hover rfl hdg rfl hn hbytes hcells hslots fun cA2 kA comp f1 f2 f3 f4 => ?_
  obtain ⟨-, -, -, -, -, hf⟩ := (hK.2 t0 _ ht).2
  have ec : cA2 = cA := Option.some.inj (f1.symm.trans hf)
  subst ec
  generalize hH1 : H.push ({ cls := cA2, slots := Array.replicate k.toNatClampNeg .null, vm := .none } : Cell) = H1
  have z1 : H1.size = H.size + 1 := by rw [← hH1, Array.size_push]
  have e1 : H1[H.size]? = some (arrV cA2 k.toNatClampNeg (fun _ => .null)) := by rw [← hH1, Array.getElem?_push_size, ← arrV_new]
  have o1 : ∀ q : Nat, q < H.size → H1[q]? = H[q]? := fun q hq => by rw [← hH1, Array.getElem?_push, if_neg (Nat.ne_of_lt hq)]
  have k2 := kk H1 (gw_push hG (by
    show H1[b + n]? = some (vp_cell cA2 (k.toNatClampNeg, .inr (.inr (.inr (.inr (fun _ => none))))))
    rw [vp_cell_q, ← hG.2]
    exact e1) z1 o1) (gw_S hS (by omega) o1)
  rw [← hG.2] at k2
  exact k2
theorem gw_set {k : Nat} {en : va_E} {H1 : Heap} (hG : gw D cl b n hp H) (hz : H1.size = H.size) (h : va_P D cl ((ws_W n (fun k => b + k) hp).set k (b + k, en)) H1) : gw D cl b n (va_up hp k en) H1 := by
  refine ⟨?_, by rw [hz]; exact hG.2⟩
  have h2 := ws_set (n := n) (k := k) (ad := fun k => b + k) (hp := hp) en
  rw [← h2]
  exact h
theorem gz_putF (hx : p.tables.exec = Jvm.exec) (hb : c.code = cc) {own ref C : String} {T : u_T} {N ci index : Nat} {Ts : List Cond} (hts : ∀ w ∈ Ts, w.before args s = true) (hin : ∀ w ∈ u_ws C T N, w ∈ Ts) (ty0 : Nat → FieldType) (hty : ∀ k, k < N → parseFieldDescriptor (T k).2.2.1 = some (ty0 k)) (hnm : ∀ a, a < N → ∀ b, b < N → a ≠ b → (T a).2.1 ≠ (T b).2.1) (hown : s.vm.findClass own = some m.cls) (hK : va_K D cl tys s) (hG : gw D cl b n hp H) (hS0 : va_S (gA b) H0 H locs) (j : Nat) (hj : j < n) {fs : List Value} (hj2 : hp j = .inr (ci, fs)) (hc : cl[ci]? = some (C, T, N)) (f : Nat) (hf : f < N) (hlink : (Cond.fieldLink own index ref (T f).2.1 (T f).2.2.1).before args s = true) (hsame : ∀ x, s.fieldFound? (T f).1 (T f).2.1 (T f).2.2.1 = some x → s.fieldFound? ref (T f).2.1 (T f).2.2.1 = some x)
    (hfin : (T f).2.2.2 = true) (hin2 : meth.name = "<init>") (hdecl : (T f).1 = own) {ty : FieldType} {v : Value} (hd : parseFieldDescriptor (T f).2.2.1 = some ty) (hn : narrow ty v = v) (hfit : fits ty v = true) (hl : f < fs.length) (hdg : decode cc pc = .ok (.putfield index, 3))
    (kk : ∀ (H1 : Heap) (locs1 : List Loc), gw D cl b n (va_up hp j (.inr (ci, fs.set f v))) H1 → va_S (gA b) H0 H1 locs1 → W p l e R s m args below meth c H1 locs1 cells slots Q (F0 m (pc + 3) ls rest)) : W p l e R s m args below meth c H locs cells slots Q (F0 m pc ls (v :: .ref (b + j) :: rest)) := by
  have hD := gw_D (b := b) (n := n) (hp := hp)
  have he := (ws_get (ad := fun k => b + k) (hp := hp) hj).trans (congrArg (fun z => some (b + j, z)) hj2)
  have hap := va_apart (own := own) hts hin ty0 hty hnm hK hc
  obtain ⟨r, h1, cell, q1, q2, q3, q4⟩ := hG.1 j _ he
  have hr : r = (C, T, N) := Option.some.inj (h1.symm.trans hc)
  subst hr
  obtain ⟨hS1, hfc, kC, hkC, hkind⟩ := hK.1 ci _ hc
  obtain ⟨cf, kf, fi, f1, hi, hsl⟩ := hS1 f hf
  have hlay := hts _ (hin _ (u_in_lay hf))
  unfold u_lay at hlay
  rw [if_pos hfin] at hlay
  have hst := (u_facts hfc hkC (u_lays hts hin hf) hi).1
  have hcf : m.cls = cf := by
    obtain ⟨_, _, c', _, _, _, -, -, hf', -, -, -, hown2, -⟩ := Cond.laysFinal_spec hlay
    have e1 : c' = cf := by have := hi.symm.trans hf'; simp at this; exact this.1.symm
    rw [hdecl] at hown2
    rw [← e1]; exact Option.some.inj (hown.symm.trans hown2)
  have h6 := u_fits hfc hkC hkind (Or.inr hlay) hi hd hn hfit
  refine W.putFinK hx hb hown hlink (hsame _ hi) hst hcf hin2 (by rw [q2]; exact h6) q1 q3 (by rw [hsl]; exact k2_hasslot (q4 f hf)) rfl rfl hdg fun H' e1 e2 e3 => ?_
  rw [hsl] at e1 ⊢
  exact kk H' _ (gw_set hG e2 (hG.1.set hD he ⟨_, hc, t_OB.to (V := updV (vp_V fs) f v) ⟨_, e1, q2, q3, t_set q4 hap hf v⟩ (fun j _ => vp_updV_set hl v j)⟩ e3)) (hS0.put e2 e3 (hD.2 j _ he))
theorem gz_put (hx : p.tables.exec = Jvm.exec) (hb : c.code = cc) {own ref C : String} {T : u_T} {N ci index : Nat} {Ts : List Cond} (hts : ∀ w ∈ Ts, w.before args s = true) (hin : ∀ w ∈ u_ws C T N, w ∈ Ts) (ty0 : Nat → FieldType) (hty : ∀ k, k < N → parseFieldDescriptor (T k).2.2.1 = some (ty0 k)) (hnm : ∀ a, a < N → ∀ b, b < N → a ≠ b → (T a).2.1 ≠ (T b).2.1) (hown : s.vm.findClass own = some m.cls) (hK : va_K D cl tys s) (hG : gw D cl b n hp H) (hS0 : va_S (gA b) H0 H locs) (j : Nat) (hj : j < n) {fs : List Value} (hj2 : hp j = .inr (ci, fs)) (hc : cl[ci]? = some (C, T, N)) (f : Nat) (hf : f < N) (hlink : (Cond.fieldLink own index ref (T f).2.1 (T f).2.2.1).before args s = true) (hsame : ∀ x, s.fieldFound? (T f).1 (T f).2.1 (T f).2.2.1 = some x → s.fieldFound? ref (T f).2.1 (T f).2.2.1 = some x)
    (hfin : (T f).2.2.2 = false) {ty : FieldType} {v : Value} (hd : parseFieldDescriptor (T f).2.2.1 = some ty) (hn : narrow ty v = v) (hfit : fits ty v = true) (hl : f < fs.length) (hdg : decode cc pc = .ok (.putfield index, 3))
    (kk : ∀ (H1 : Heap) (locs1 : List Loc), gw D cl b n (va_up hp j (.inr (ci, fs.set f v))) H1 → va_S (gA b) H0 H1 locs1 → W p l e R s m args below meth c H1 locs1 cells slots Q (F0 m (pc + 3) ls rest)) : W p l e R s m args below meth c H locs cells slots Q (F0 m pc ls (v :: .ref (b + j) :: rest)) := by
  have hD := gw_D (b := b) (n := n) (hp := hp)
  have he := (ws_get (ad := fun k => b + k) (hp := hp) hj).trans (congrArg (fun z => some (b + j, z)) hj2)
  have hap := va_apart (own := own) hts hin ty0 hty hnm hK hc
  obtain ⟨r, h1, cell, q1, q2, q3, q4⟩ := hG.1 j _ he
  have hr : r = (C, T, N) := Option.some.inj (h1.symm.trans hc)
  subst hr
  obtain ⟨hS1, hfc, kC, hkC, hkind⟩ := hK.1 ci _ hc
  obtain ⟨cf, kf, fi, f1, hi, hsl⟩ := hS1 f hf
  have hlay := hts _ (hin _ (u_in_lay hf))
  unfold u_lay at hlay
  rw [if_neg (by rw [hfin]; decide)] at hlay
  have hst := (u_facts hfc hkC (u_lays hts hin hf) hi).1
  have h6 := u_store hfc hkC hkind hlay hi hd hn hfit
  refine W.putK hx hb (f := f1) ⟨hown, hlink, ⟨_, _, _, hsame _ hi⟩, hst⟩ (by rw [q2]; exact h6) q1 q3 (by rw [hsl]; exact k2_hasslot (q4 f hf)) rfl rfl hdg fun H' e1 e2 e3 => ?_
  rw [hsl] at e1 ⊢
  exact kk H' _ (gw_set hG e2 (hG.1.set hD he ⟨_, hc, t_OB.to (V := updV (vp_V fs) f v) ⟨_, e1, q2, q3, t_set q4 hap hf v⟩ (fun j _ => vp_updV_set hl v j)⟩ e3)) (hS0.put e2 e3 (hD.2 j _ he))
theorem gz_aast (hx : p.tables.exec = Jvm.exec) (hb : c.code = cc) (hK : va_K D cl tys s) (hG : gw D cl b n hp H) (hS : va_S (gA b) H0 H locs) (j k t0 ci : Nat) (hj : j < n) (hk : k < n) {cA : ClassId} {r : vw_C} {N : Nat} {vs : List Value} {f : Nat → Option Nat} (ha : hp j = .inl (cA, N, .inr (.inr (.inr (.inr f))))) (ht : tys[t0]? = some (cA, .object r.1)) (hv : hp k = .inr (ci, vs)) (hc : cl[ci]? = some r) {i : Int32} (hin : vp_in i N) (hdg : decode cc pc = .ok (.aastore, 1))
    (kk : ∀ (H1 : Heap) (locs1 : List Loc), gw D cl b n (va_up hp j (.inl (cA, N, .inr (.inr (.inr (.inr (va_up f i.toNatClampNeg (some (b + k))))))))) H1 → va_S (gA b) H0 H1 locs1 → W p l e R s m args below meth c H1 locs1 cells slots Q (F0 m (pc + 1) ls rest)) : W p l e R s m args below meth c H locs cells slots Q (F0 m pc ls (.ref (b + k) :: .int i :: .ref (b + j) :: rest)) := by
  have hD := gw_D (b := b) (n := n) (hp := hp)
  have ha2 := (ws_get (ad := fun k => b + k) (hp := hp) hj).trans (congrArg (fun z => some (b + j, z)) ha)
  have hv2 := (ws_get (ad := fun k => b + k) (hp := hp) hk).trans (congrArg (fun z => some (b + k, z)) hv)
  have hlt : i.toNatClampNeg < N := Nat.not_le.mp fun q => hin (Or.inr q)
  have h0 : ¬ i < 0 := fun q => hin (Or.inl q)
  obtain ⟨r', hr', cellV, g1, g2, g3, -⟩ := hG.1 k _ hv2
  have hcls := (hK.1 ci r hc).2
  obtain ⟨kA, comp, k1, k2, k3, -⟩ := (hK.2 t0 _ ht).2
  have hcomp : comp = D.1 ci := Option.some.inj (k3.symm.trans hcls.1)
  subst hcomp
  obtain ⟨kC, hkC, -⟩ := hcls.2
  refine W.aast hx hb (hG.1 j _ ha2) (fun q h => by cases h) (fun h => by cases h) k1 k2 rfl hkC ⟨h0, by show _ < (arrV _ _ _).slots.size; rw [arrV_size]; exact hlt⟩ g1 (fun q h => by rw [g3] at h; cases h) (by rw [g2]; exact hkC) (by rw [g2]; exact va_assign hcls) rfl rfl hdg fun H1 e z oq => ?_
  refine kk H1 _ (gw_set hG z (hG.1.set hD ha2 ?_ oq)) (hS.put z oq (hD.2 j _ ha2))
  show H1[b + j]? = some (vp_cell _ _)
  rw [e]
  rw [vp_cell_q, vp_cell_q, arrV_store]
  congr 2
  funext q
  by_cases hq : q = i.toNatClampNeg
  · subst hq
    simp [updV, va_up, va_rf]
  · simp [updV, va_up, hq]
theorem gz_iast (hx : p.tables.exec = Jvm.exec) (hb : c.code = cc) (hK : va_K D cl tys s) (hG : gw D cl b n hp H) (hS : va_S (gA b) H0 H locs) (j t0 : Nat) (hj : j < n) {cA : ClassId} {N : Nat} {f : Nat → Int32} (ha : hp j = .inl (cA, N, .inl f)) (ht : tys[t0]? = some (cA, .int)) {i x : Int32} (hin : vp_in i N) (hdg : decode cc pc = .ok (.iastore, 1))
    (kk : ∀ (H1 : Heap) (locs1 : List Loc), gw D cl b n (va_up hp j (.inl (cA, N, .inl (upd f i.toNatClampNeg x)))) H1 → va_S (gA b) H0 H1 locs1 → W p l e R s m args below meth c H1 locs1 cells slots Q (F0 m (pc + 1) ls rest)) : W p l e R s m args below meth c H locs cells slots Q (F0 m pc ls (.int x :: .int i :: .ref (b + j) :: rest)) := by
  have hD := gw_D (b := b) (n := n) (hp := hp)
  have ha2 := (ws_get (ad := fun k => b + k) (hp := hp) hj).trans (congrArg (fun z => some (b + j, z)) ha)
  have hlt : i.toNatClampNeg < N := Nat.not_le.mp fun q => hin (Or.inr q)
  refine W.iast hx hb (hG.1 j _ ha2) ((hK.2 t0 _ ht).1 N (fun j => .int (f j))) (fun q => by cases q) (by show ¬ (i < 0 ∨ (arrV _ _ _).slots.size ≤ _); rw [arrV_size]; exact hin) rfl rfl hdg fun H1 e z oq => ?_
  refine kk H1 _ (gw_set hG z (hG.1.set hD ha2 ?_ oq)) (hS.put z oq (hD.2 j _ ha2))
  show H1[b + j]? = some (vp_cell _ _)
  rw [e]
  rw [vp_cell_i, vp_cell_i, arrV_store]
  congr 2
  funext q
  by_cases hq : q = i.toNatClampNeg
  · subst hq
    simp [updV, upd]
  · simp [updV, upd, hq]
theorem gz_get (hx : p.tables.exec = Jvm.exec) (hb : c.code = cc) {own ref C : String} {T : u_T} {N ci index : Nat} {Ts : List Cond} (hts : ∀ w ∈ Ts, w.before args s = true) (hin : ∀ w ∈ u_ws C T N, w ∈ Ts) (hown : s.vm.findClass own = some m.cls) (hK : va_K D cl tys s) (hG : gw D cl b n hp H) (j : Nat) (hj : j < n) {fs : List Value} (hj2 : hp j = .inr (ci, fs)) (hc : cl[ci]? = some (C, T, N)) (f : Nat) (hf : f < N) (hlink : (Cond.fieldLink own index ref (T f).2.1 (T f).2.2.1).before args s = true) (hsame : ∀ x, s.fieldFound? (T f).1 (T f).2.1 (T f).2.2.1 = some x → s.fieldFound? ref (T f).2.1 (T f).2.2.1 = some x) {v : Value} (hv : fs[f]? = some v) (hdg : decode cc pc = .ok (.getfield index, 3))
    (kk : W p l e R s m args below meth c H locs cells slots Q (F0 m (pc + 3) ls (v :: rest))) : W p l e R s m args below meth c H locs cells slots Q (F0 m pc ls (.ref (b + j) :: rest)) :=
  va_get hx hb hts hin hown hK hG.1 j (fs := fs) ((ws_get (ad := fun k => b + k) (hp := hp) hj).trans (congrArg (fun z => some (b + j, z)) hj2)) hc f hf hlink hsame hv hdg kk
theorem gz_iald (hx : p.tables.exec = Jvm.exec) (hb : c.code = cc) (hK : va_K D cl tys s) (hG : gw D cl b n hp H) (j t0 : Nat) (hj : j < n) {cA : ClassId} {N : Nat} {f : Nat → Int32} (ha : hp j = .inl (cA, N, .inl f)) (ht : tys[t0]? = some (cA, .int)) {i : Int32} (hin : vp_in i N) (hdg : decode cc pc = .ok (.iaload, 1))
    (kk : W p l e R s m args below meth c H locs cells slots Q (F0 m (pc + 1) ls (.int (f i.toNatClampNeg) :: rest))) : W p l e R s m args below meth c H locs cells slots Q (F0 m pc ls (.int i :: .ref (b + j) :: rest)) :=
  va_iald hx hb hK hG.1 j t0 ((ws_get (ad := fun k => b + k) (hp := hp) hj).trans (congrArg (fun z => some (b + j, z)) ha)) ht hin hdg kk
theorem gz_alen (hx : p.tables.exec = Jvm.exec) (hb : c.code = cc) (hK : va_K D cl tys s) (hG : gw D cl b n hp H) (j t0 : Nat) (hj : j < n) {cA : ClassId} {x : vp_A} (ha : hp j = .inl (cA, x)) {ty : FieldType} (ht : tys[t0]? = some (cA, ty)) {v : Int32} (hv : Int32.ofNat x.1 = v) (hdg : decode cc pc = .ok (.arraylength, 1))
    (kk : W p l e R s m args below meth c H locs cells slots Q (F0 m (pc + 1) ls (.int v :: rest))) : W p l e R s m args below meth c H locs cells slots Q (F0 m pc ls (.ref (b + j) :: rest)) :=
  va_alen hx hb hK hG.1 j t0 ((ws_get (ad := fun k => b + k) (hp := hp) hj).trans (congrArg (fun z => some (b + j, z)) ha)) ht hv hdg kk
/-- a constructor's start and end: from n cells that hold hp to n2 cells that hold hp2; F: what the tables say beside the words -/
def fOK (F : State → Prop) : Prop := ∀ u U : State, u.WarmedH U.vm → F u → F U
def gx (D : va_G) (cl : List vw_C) (tys : List (ClassId × FieldType)) (F : State → Prop) (b n : Nat) (hp : Nat → va_E) (U : State) : Prop := (fOK F ∧ F U) ∧ gw D cl b n hp U.heap ∧ va_K D cl tys U
abbrev gQ (D : va_G) (cl : List vw_C) (b n2 : Nat) (hp2 : Nat → va_E) : Array Value → State → Outcome → State → Prop := va_Qv (fun _ : Unit => True) (fun _ t => gw D cl b n2 hp2 t.heap) (gA b)
theorem gx_blind {F : State → Prop} {av : List Value} : FrameBlind (va_Pc av (gx D cl tys F b n hp)) := fun a U g mk q => ⟨q.1, ⟨q.2.1.1, q.2.1.1 U (U.calling g mk a) (State.WarmedH.refl U) q.2.1.2⟩, q.2.2.1, va_K.moved (u := U) (U := U.calling g mk a) (Vm.Alike.refl U.vm) q.2.2.2⟩
theorem gx_at {F : State → Prop} {U : State} (hF : fOK F ∧ F s) (hG : gw D cl b n hp H) (hK : va_K D cl tys s) (hU : U.heap = H) (hW : s.WarmedH U.vm) : gx D cl tys F b n hp U := ⟨⟨hF.1, hF.1 s U hW hF.2⟩, by rw [hU]; exact hG, va_K.moved hW.alike hK⟩
theorem gz_ret (hx : p.tables.exec = Jvm.exec) (hb : c.code = cc) (hr : meth.sig.returnType = none) (hlocks : meth.locks = false) (hG : gw D cl b n hp H) (hS : va_S (gA b) s.heap H locs) (hdg : decode cc pc = .ok (.return_, 1)) :
    W p l e R s m args below meth c H locs cells slots (MQ below (gQ D cl b n hp) args s cells slots (gA b)) (F0 m pc ls []) :=
  W.vret hx hb hr (fun t ht hW => ⟨⟨(), rfl, trivial, by show gw D cl b n hp t.heap; rw [ht]; exact hG⟩, hS.F ht⟩) hS.2.2 hdg
theorem gz_call {n2 mc ms : Nat} {hp2 : Nat → va_E} {st0 : List Value} {a : Array Value} (hr : va_Run p l e R s m args below meth c H locs cells slots mc ms (F0 m pc ls st0) rest (gQ D cl b n2 hp2 a) (gA b)) (hS : va_S (gA b) H0 H locs)
    (kk : ∀ (H1 : Heap) (locs1 : List Loc), gw D cl b n2 hp2 H1 → va_S (gA b) H0 H1 locs1 → W p l e R s m args below meth c H1 locs1 (cells + mc) (slots + ms) Q (F0 m (pc + 3) ls rest)) : W p l e R s m args below meth c H locs cells slots Q (F0 m pc ls st0) :=
  va_callv hr hS (fun q _ h => h) (fun q h => h) (fun u t H1 locs1 ht hvm hw hB hz1 hk1 hS => by
    have hG1 := hB
    rw [ht] at hG1
    exact kk H1 locs1 hG1 hS)
end GR
