/-! ===== the start: what the tables and the Statement give ===== -/
def R_law : String := "TuneSearchLaw"
def lw_P (b : Addr) (xs : List Int32) (args : Array Value) (s : State) : Prop := args = #[.ref b] ∧ s.IntsAt b xs ∧ xs.length ≤ 2048 ∧ (Jvm.Cond.and given_1 narrow_1).before args s = true
def lw_Q (_ : Array Value) (s : State) (o : Outcome) (t : State) : Prop := o = .returned (some (.int 1)) ∧ Framed s o t [] 601024 7293034
def lw_Z (below : List Frame) (a : Array Value) (s : State) : State → Prop := fun t => ∃ o, t.status = .running ∧ Ended t below o ∧ lw_Q a s o t
/-- the law's own end, with 1 on the stack, nothing written that was there before, its room as the claim has it -/
theorem lw_ret {p : Program} {l : Launch} {e : Env} {s : State} {m : MethodId} {below : List Frame} {meth : Method} {c : Code} {b : Nat} (hx : p.tables.exec = Jvm.exec) (hb : c.code = code) (hr : meth.sig.returnType = ret) (hlocks : meth.locks = false) {pc : Nat} {H : Heap} {ls : Array Slot} (hdg : decode code pc = .ok (.ireturn, 1)) : W p l e room_1 s m #[Value.ref b] below meth c H [] 601024 7293034 (lw_Z below #[Value.ref b] s) (F0 m pc ls [.int 1]) := by
  intro T hT X
  obtain ⟨fs, hret, hrun, hended, hW, hframe⟩ := X.leave (v := some (.int 1)) (hlocks := hlocks) (fun h => by rw [hr] at h; cases h)
  have hmeth' : T.vm.method? m = some meth := X.method'
  refine ⟨T.setFrames fs, ?_, .returned (some (.int 1)), hrun, hended, rfl, ⟨_, rfl⟩, hW, hframe⟩
  jvm_step X.here [X.here.top, hx, hb, hdg, hmeth', hr, ret, narrow_b1]
  (try refine ⟨rfl, ?_⟩); (try refine ⟨rfl, ?_⟩)
  first | (intro acts; rw [hret _ acts rfl rfl rfl]) | rw [hret _ _ rfl rfl rfl]
  exact Steps.refl _
/-- what holds at the law's entry: the machine, the code, the tables' words (any of lw_tbl by 'hts w (by decide +kernel)'), the script of L ints xs at the cell b, what the Statement gives of the start (any of its parts by flat_of_before) -/
def lw_At (p : Program) (s : State) (m : MethodId) (meth : Method) (c : Code) (b L : Nat) (xs : Nat → Int32) : Prop :=
  p.tables.exec = Jvm.exec ∧ c.code = code ∧ meth.sig.returnType = ret ∧ c.maxLocals = 8 ∧ s.vm.findClass R_law = some m.cls ∧ (∀ w ∈ lw_tbl, w.before #[Value.ref b] s = true) ∧ va_X b L xs s s.heap ∧ b < s.heap.size ∧ meth.locks = false ∧ (Jvm.Cond.and given_1 narrow_1).before #[Value.ref b] s = true
/-- the classes as the tables have them -/
theorem wk_cls {args : Array Value} {s : State} (hts : ∀ w ∈ lw_tbl, w.before args s = true) : ∃ D : va_G, ∀ (k : Nat) (q : vw_C), vwCl[k]? = some q → u_Kn s q.1 q.2.1 q.2.2 (D.1 k) (D.2 k) := by
  obtain ⟨c0, i0, h0⟩ := u_known (C := RX0) (T := TX0) (N := 11) (n := 11) hts inX0 (hts (.instantiable RX0 11) (by decide +kernel))
  obtain ⟨c1, i1, h1⟩ := u_known (C := RX1) (T := TX1) (N := 3) (n := 3) hts inX1 (hts (.instantiable RX1 3) (by decide +kernel))
  obtain ⟨c2, i2, h2⟩ := u_known (C := RX2) (T := TX2) (N := 4) (n := 4) hts inX2 (hts (.instantiable RX2 4) (by decide +kernel))
  obtain ⟨c3, i3, h3⟩ := u_known (C := RX3) (T := TX3) (N := 5) (n := 5) hts inX3 (hts (.instantiable RX3 5) (by decide +kernel))
  obtain ⟨c4, i4, h4⟩ := u_known (C := RX4) (T := TX4) (N := 3) (n := 3) hts inX4 (hts (.instantiable RX4 3) (by decide +kernel))
  obtain ⟨c5, i5, h5⟩ := u_known (C := RX5) (T := TX5) (N := 3) (n := 3) hts inX5 (hts (.instantiable RX5 3) (by decide +kernel))
  obtain ⟨c6, i6, h6⟩ := u_known (C := RX6) (T := TX6) (N := 2) (n := 2) hts inX6 (hts (.instantiable RX6 2) (by decide +kernel))
  obtain ⟨c7, i7, h7⟩ := u_known (C := RX7) (T := TX7) (N := 2) (n := 2) hts inX7 (hts (.instantiable RX7 2) (by decide +kernel))
  obtain ⟨c8, i8, h8⟩ := u_known (C := RX8) (T := TX8) (N := 10) (n := 10) hts inX8 (hts (.instantiable RX8 10) (by decide +kernel))
  obtain ⟨c9, i9, h9⟩ := u_known (C := RX9) (T := TX9) (N := 8) (n := 8) hts inX9 (hts (.instantiable RX9 8) (by decide +kernel))
  obtain ⟨c10, i10, h10⟩ := u_known (C := RX10) (T := TX10) (N := 9) (n := 9) hts inX10 (hts (.instantiable RX10 9) (by decide +kernel))
  obtain ⟨c11, i11, h11⟩ := u_known (C := RX11) (T := TX11) (N := 16) (n := 16) hts inX11 (hts (.instantiable RX11 16) (by decide +kernel))
  obtain ⟨c12, i12, h12⟩ := u_known (C := RX12) (T := TX12) (N := 41) (n := 41) hts inX12 (hts (.instantiable RX12 41) (by decide +kernel))
  have hex : ∀ k : Nat, ∃ d : ClassId × (Nat → Nat), ∀ q : vw_C, vwCl[k]? = some q → u_Kn s q.1 q.2.1 q.2.2 d.1 d.2 := by
    intro k
    match k with
    | 0 => exact ⟨(c0, i0), fun q hq => by cases hq; exact h0⟩
    | 1 => exact ⟨(c1, i1), fun q hq => by cases hq; exact h1⟩
    | 2 => exact ⟨(c2, i2), fun q hq => by cases hq; exact h2⟩
    | 3 => exact ⟨(c3, i3), fun q hq => by cases hq; exact h3⟩
    | 4 => exact ⟨(c4, i4), fun q hq => by cases hq; exact h4⟩
    | 5 => exact ⟨(c5, i5), fun q hq => by cases hq; exact h5⟩
    | 6 => exact ⟨(c6, i6), fun q hq => by cases hq; exact h6⟩
    | 7 => exact ⟨(c7, i7), fun q hq => by cases hq; exact h7⟩
    | 8 => exact ⟨(c8, i8), fun q hq => by cases hq; exact h8⟩
    | 9 => exact ⟨(c9, i9), fun q hq => by cases hq; exact h9⟩
    | 10 => exact ⟨(c10, i10), fun q hq => by cases hq; exact h10⟩
    | 11 => exact ⟨(c11, i11), fun q hq => by cases hq; exact h11⟩
    | 12 => exact ⟨(c12, i12), fun q hq => by cases hq; exact h12⟩
    | k + 13 => exact ⟨(c0, i0), fun q hq => by simp [vwCl] at hq⟩
  obtain ⟨f, hf⟩ := Classical.axiomOfChoice hex
  exact ⟨(fun k => (f k).1, fun k => (f k).2), fun k q hq => hf k q hq⟩
theorem wk_K {args : Array Value} {s : State} (hts : ∀ w ∈ lw_tbl, w.before args s = true) : ∃ (D : va_G) (csX csM : Nat → ClassId), csX 1 = csM 1 ∧ ∀ (stX stM nX nM : Nat → Nat), va_K D vwCl [(csX 0, .int), (csX 1, .long), (csX 2, .boolean), (csX 3, .object RX4), (csX 4, .object RX2), (csX 5, .array .int)] s ∧ va_K D vwCl [(csM 0, .int), (csM 1, .long), (csM 2, .byte)] s := by
  obtain ⟨D, hD⟩ := wk_cls hts
  obtain ⟨a0, p0, q0⟩ := ka_prim (ty := .int) (hts (.arrayClass .int) (by decide +kernel))
  obtain ⟨a1, p1, q1⟩ := ka_prim (ty := .long) (hts (.arrayClass .long) (by decide +kernel))
  obtain ⟨a2, p2, q2⟩ := ka_prim (ty := .boolean) (hts (.arrayClass .boolean) (by decide +kernel))
  obtain ⟨a6, p6, q6⟩ := ka_prim (ty := .byte) (hts (.arrayClass .byte) (by decide +kernel))
  obtain ⟨a3, p3, q3⟩ := ka_obj (C := RX4) (hts (.arrayOver (.object RX4)) (by decide +kernel))
  obtain ⟨a4, p4, q4⟩ := ka_obj (C := RX2) (hts (.arrayOver (.object RX2)) (by decide +kernel))
  obtain ⟨a5, p5, q5⟩ := ka_arr (t := .int) (hts (.arrayOver (.array .int)) (by decide +kernel))
  refine ⟨D, fun k => if k = 0 then a0 else if k = 1 then a1 else if k = 2 then a2 else if k = 3 then a3 else if k = 4 then a4 else a5, fun k => if k = 0 then a0 else if k = 1 then a1 else a6, rfl, fun _ _ _ _ => ⟨⟨hD, ?_⟩, ⟨hD, ?_⟩⟩⟩
  · intro k q hq
    match k, hq with
    | 0, hq => cases hq; exact ⟨p0, q0⟩
    | 1, hq => cases hq; exact ⟨p1, q1⟩
    | 2, hq => cases hq; exact ⟨p2, q2⟩
    | 3, hq => cases hq; exact ⟨p3, q3⟩
    | 4, hq => cases hq; exact ⟨p4, q4⟩
    | 5, hq => cases hq; exact ⟨p5, q5⟩
    | k + 6, hq => simp at hq
  · intro k q hq
    match k, hq with
    | 0, hq => cases hq; exact ⟨p0, q0⟩
    | 1, hq => cases hq; exact ⟨p1, q1⟩
    | 2, hq => cases hq; exact ⟨p6, q6⟩
    | k + 3, hq => simp at hq
theorem va_AOA_moved {ty : FieldType} {u U : State} (hW : u.WarmedH U.vm) (h : va_AOA ty u) : va_AOA ty U := by
  have h2 : (Cond.arrayOver (.array ty)).before #[] (u.setVm U.vm) = true := by rw [Cond.arrayOver_setVmC hW.alike]; exact h
  exact h2
theorem FX_ok : fOK FX := fun u U hW h => ⟨h.1.warmM hW, h.2.1.warmM hW, h.2.2.1.warmM hW, h.2.2.2.1.warmM hW, h.2.2.2.2.1.warmM hW, h.2.2.2.2.2.1.warmM hW, h.2.2.2.2.2.2.1.warmM hW, h.2.2.2.2.2.2.2.1.warmM hW, h.2.2.2.2.2.2.2.2.1.warmM hW, h.2.2.2.2.2.2.2.2.2.1.moved hW.alike, h.2.2.2.2.2.2.2.2.2.2.1.moved hW.alike, va_AOA_moved hW h.2.2.2.2.2.2.2.2.2.2.2⟩
theorem FM_ok : fOK FM := fun _ _ _ _ => trivial
theorem wk_FX {args : Array Value} {s : State} (hts : ∀ w ∈ lw_tbl, w.before args s = true) : FX s :=
  ⟨va_Nw.of rfl (hts (.methodLinkNest RX11 34 yX7_init RX11) (by decide +kernel)), va_Nw.of rfl (hts (.methodLinkNest RX10 15 yX2_init RX11) (by decide +kernel)), va_Nw.of rfl (hts (.methodLinkNest RX2 9 yX5_init RX11) (by decide +kernel)), va_Nw.of rfl (hts (.methodLinkNest RX11 48 yX9_init RX11) (by decide +kernel)), va_Nw.of rfl (hts (.methodLinkNest RX11 58 yX6_init RX11) (by decide +kernel)), va_Nw.of rfl (hts (.methodLinkNest RX11 65 yX8_init RX11) (by decide +kernel)), va_Nw.of rfl (hts (.methodLinkNest RX11 72 yX1_init RX11) (by decide +kernel)), va_Nw.of rfl (hts (.methodLinkNest RX11 79 yX0_init RX11) (by decide +kernel)), va_Nw.of rfl (hts (.methodLinkNest RX0 13 yX3_init RX11) (by decide +kernel)), va_AO.of (hts (.arrayOver (.object RX4)) (by decide +kernel)), va_AO.of (hts (.arrayOver (.object RX2)) (by decide +kernel)), va_AOA.of (hts (.arrayOver (.array .int)) (by decide +kernel))⟩
theorem wk_EX {args : Array Value} {s : State} (hts : ∀ w ∈ lw_tbl, w.before args s = true) (hgv : (Jvm.Cond.and given_1 narrow_1).before args s = true) : ∃ a0 a1 a2 : Nat, ∀ (Z : ZT) (A : Nat → Prop), (∀ a : Nat, a < s.heap.size → ¬ A a) → za Z 1000 = a0 → za Z 1001 = a1 → za Z 1002 = a2 → EX Z A s s.heap := by
  have hs := flat_of_before _ hgv
  obtain ⟨a0, -, -, -, e0, -⟩ := Cond.exactly_spec (args := args) (first := s) (o := none) (s := s) (idx := []) (t := .string RX11 141) (cls := "java/lang/String") (hs _ (by decide +kernel))
  obtain ⟨a1, -, -, -, e1, -⟩ := Cond.exactly_spec (args := args) (first := s) (o := none) (s := s) (idx := []) (t := .string RX11 165) (cls := "java/lang/String") (hs _ (by decide +kernel))
  obtain ⟨a2, -, -, -, e2, -⟩ := Cond.exactly_spec (args := args) (first := s) (o := none) (s := s) (idx := []) (t := .string RX11 173) (cls := "java/lang/String") (hs _ (by decide +kernel))
  refine ⟨a0, a1, a2, fun Z A hA z0 z1 z2 => ⟨?_, ?_, ?_, vx_Zqof (hts (.laysStatic Bundle.tN "UNASSIGNED_STACK" Bundle.steD) (by decide +kernel)) (hts (.initialized Bundle.tN) (by decide +kernel)) (hs _ (by decide +kernel)) hA, vx_Zqof (hts (.laysStatic Bundle.tN "SUPPRESSED_SENTINEL" Bundle.listD) (by decide +kernel)) (hts (.initialized Bundle.tN) (by decide +kernel)) (hs _ (by decide +kernel)) hA, va_Nc.of (args := args) (hs _ (by decide +kernel)), va_Nw.of rfl (hts (.declares (Bundle.initS "java/lang/RuntimeException")) (by decide +kernel)), va_Nw.of rfl (hts (.declares (Bundle.initS "java/lang/Exception")) (by decide +kernel)), va_Nw.of rfl (hts (.declares (Bundle.initS Bundle.tN)) (by decide +kernel)), va_Nw.of rfl (hts (.castable "java/lang/IndexOutOfBoundsException" "java/lang/IndexOutOfBoundsException") (by decide +kernel)), va_Nw.of rfl (hts (.castable "java/lang/ArithmeticException" "java/lang/ArithmeticException") (by decide +kernel))⟩⟩
  · rw [z0]; exact vk_R.of (hts (.stringRef RX11 141 "nothing such was found") (by decide +kernel)) e0
  · rw [z1]; exact vk_R.of (hts (.stringRef RX11 165 "no such tune") (by decide +kernel)) e1
  · rw [z2]; exact vk_R.of (hts (.stringRef RX11 173 "no unit goes") (by decide +kernel)) e2
theorem wk_EM {args : Array Value} {s : State} (hts : ∀ w ∈ lw_tbl, w.before args s = true) (hgv : (Jvm.Cond.and given_1 narrow_1).before args s = true) : ∃ a0 a1 : Nat, ∀ (Z : ZT) (A : Nat → Prop), (∀ a : Nat, a < s.heap.size → ¬ A a) → (∀ q, A q → s.heap.size ≤ q) → za Z 1000 = a0 → za Z 1001 = a1 → EM Z A s s.heap := by
  have hs := flat_of_before _ hgv
  obtain ⟨adK, adV, hV, hE⟩ := vk_Sof (args := args) (s := s) (N := 1) (tm := fun _ => .string RX12 119) (len := [11]) (byt := [[46, 114, 91, 44, 93, 40, 41, 124, 42, 43, 63]]) (A := fun q => s.heap.size ≤ q) (fun i hi => by
      have e : i = 0 := by omega
      subst e
      decide) (fun i _ => hs _ (by decide +kernel)) (fun i _ => hs _ (by decide +kernel)) (fun i _ => hs _ (by decide +kernel)) (fun i hi => by
      have e : i = 0 := by omega
      subst e
      exact hs _ (by decide +kernel)) (fun i hi j hj => by
      have e : i = 0 := by omega
      subst e
      have hj : j < 11 := hj
      have hc : j = 0 ∨ j = 1 ∨ j = 2 ∨ j = 3 ∨ j = 4 ∨ j = 5 ∨ j = 6 ∨ j = 7 ∨ j = 8 ∨ j = 9 ∨ j = 10 := by omega
      rcases hc with rfl | rfl | rfl | rfl | rfl | rfl | rfl | rfl | rfl | rfl | rfl <;> exact hs _ (by decide +kernel)) (fun i j hi hj hne => absurd (by omega : i = j) hne) (fun a ha h => by
      have h : s.heap.size ≤ a := h
      omega)
  refine ⟨adK 0, adV 0, fun Z A hA hB z0 z1 => ⟨?_, ?_, va_Zof (hts (.laysStatic "java/lang/String" "COMPACT_STRINGS" "Z") (by decide +kernel)) (hts (.initialized "java/lang/String") (by decide +kernel)) (va_eqt (hs (.eq (.static "java/lang/String" "COMPACT_STRINGS" "Z") (.int 1)) (by decide +kernel))) hA⟩⟩
  · rw [z0]; exact vk_R.of (hts (.stringRef RX12 119 ".r[,]()|*+?") (by decide +kernel)) (hE 0 (by omega))
  · refine vk_S.narrow (A := fun q => s.heap.size ≤ q) ?_ hB
    refine ⟨fun i hi => ?_, fun i j hi hj _ => by omega⟩
    have e : i = 0 := by omega
    subst e
    show va_O "java/lang/String" (za Z 1000) _ s s.heap ∧ va_OF "java/lang/String" "coder" "B" (.int 0) (za Z 1000) _ s s.heap ∧ va_OF "java/lang/String" "value" "[B" (.ref (za Z 1001)) (za Z 1000) _ s s.heap ∧ va_T .byte (za Z 1001) _ _ _ s s.heap
    rw [z0, z1]
    exact hV.1 0 (by omega)
