/-- new int[N][K] in a world that grows: the outer array at n, its rows behind it -/
def gm_up (hp : Nat → va_E) (b n N : Nat) (cG : ClassId) (row : va_E) : Nat → va_E := fun k => if k = n then .inl (cG, N, .inr (.inr (.inr (.inr (fun i => if i < N then some (b + (n + 1 + i)) else none))))) else if n < k ∧ k < n + 1 + N then row else hp k
section GM
variable {p : Program} {l : Launch} {e : Env} {R : Room} {s : State} {m : MethodId} {args : Array Value} {below : List Frame} {meth : Method} {c : Code} {H : Heap} {locs : List Loc} {cells slots : Nat} {Q : State → Prop}
variable {cc : ByteArray} {pc : Nat} {ls : Array Slot} {rest : List Value} {D : va_G} {cl : List vw_C} {b n : Nat} {hp : Nat → va_E} {tys : List (ClassId × FieldType)} {H0 : Heap}
theorem gz_mna (hx : p.tables.exec = Jvm.exec) (hb : c.code = cc) {own : String} {index : Nat} (hown : s.vm.findClass own = some m.cls) (hclink : (Cond.classLink own index "[[I").before args s = true) (hover : va_AOA .int s) (harr : (Cond.arrayClass .int).before args s = true) (hK : va_K D cl tys s) (t0 t5 : Nat) {cI cG : ClassId} (ht0 : tys[t0]? = some (cI, .int)) (ht5 : tys[t5]? = some (cG, .array .int)) (hG : gw D cl b n hp H) (hS : va_S (gA b) H0 H locs)
    {k1 k2 : Int32} {N K : Nat} {z : vp_A} (hn : ¬ k1 < 0) (hk : ¬ k2 < 0) (hN : k1.toNatClampNeg = N) (hM : k2.toNatClampNeg = K) (hb1 : N * 4 ≤ 536870912) (hb2 : K * componentBytes .int ≤ 536870912) (hb3 : K ≤ 536870912) (hdf : fits .int (defaultValue .int) = true) (hdd : (defaultValue .int).isDefault = true) (hcells : cells + (1 + N) ≤ R.cells) (hslots : slots + (N + N * K) ≤ R.slots) (hz : ∀ c : ClassId, Jvm.Free.Multi.innerC c K (defaultValue .int) = vp_cell c z) (hdg : decode cc pc = .ok (.multianewarray index 2, 4))
    (kk : ∀ (H1 : Heap), gw D cl b (n + 1 + N) (gm_up hp b n N cG (.inl (cI, z))) H1 → va_S (gA b) H0 H1 locs → W p l e R s m args below meth c H1 locs (cells + 1 + N) (slots + N + N * K) Q (F0 m (pc + 4) ls (.ref (b + n) :: rest))) : W p l e R s m args below meth c H locs cells slots Q (F0 m pc ls (.int k2 :: .int k1 :: rest)) := by
  subst hN
  subst hM
  intro T hT Xs
  have hcy : s.vm.findClass (FieldType.array .int).toString = some cI := (hK.2 t0 _ ht0).2
  have hcg : s.vm.findClass ("[" ++ (FieldType.array .int).toString) = some cG := (hK.2 t5 _ ht5).2
  obtain ⟨vm₁, cA, comp, -, fA, fC, hO, -, X', step⟩ := Xs.multianewarray2F (ty := .int) hx hown hclink (va_AOA.use hover) harr (g := F0 m pc ls (.int k2 :: .int k1 :: rest)) rfl (by rw [hb]; exact hdg) rfl hn hk hb1 hb2 hb3 hdf hdd hcells hslots
  have ec : some cI = some comp := hcy.symm.trans fC
  cases ec
  have eg : some cG = some cA := hcg.symm.trans fA
  cases eg
  generalize hF : Jvm.Free.Multi.fill (T.setVm vm₁) cG cI k1.toNatClampNeg k2.toNatClampNeg (defaultValue .int) k1.toNatClampNeg = F at X' step
  have hTh : (T.setVm vm₁).heap = H := hT
  obtain ⟨f1, f2, -, -⟩ := Jvm.Free.Multi.fill_facts (T.setVm vm₁) cG cI k1.toNatClampNeg k2.toNatClampNeg (defaultValue .int) k1.toNatClampNeg
  rw [hF, hTh] at f1 f2
  have hold : ∀ x : Nat, x < H.size → F.heap[x]? = H[x]? := fun x hx => by
    have := Jvm.Free.Multi.fill_old (T.setVm vm₁) cG cI k1.toNatClampNeg k2.toNatClampNeg (defaultValue .int) (a := x) (by rw [hTh]; exact hx) k1.toNatClampNeg
    rw [hF, hTh] at this
    exact this
  have hrow : ∀ j : Nat, j < k1.toNatClampNeg → F.heap[H.size + 1 + j]? = some (vp_cell cI z) := fun j hj => by
    have := Jvm.Free.Multi.fill_inner (T.setVm vm₁) cG cI k1.toNatClampNeg k2.toNatClampNeg (defaultValue .int) k1.toNatClampNeg j hj
    rw [hF, hTh, hz] at this
    exact this
  have hout : Jvm.Free.Multi.outerC cG k1.toNatClampNeg H.size k1.toNatClampNeg = vp_cell cG (k1.toNatClampNeg, .inr (.inr (.inr (.inr (fun i => if i < k1.toNatClampNeg then some (H.size + 1 + i) else none))))) := by
    rw [vp_cell_q]
    exact vr_outer cG k1.toNatClampNeg H.size k1.toNatClampNeg
  rw [hout] at f2
  have hsz := hG.2
  have hG1 : gw D cl b (n + 1 + k1.toNatClampNeg) (gm_up hp b n k1.toNatClampNeg cG (.inl (cI, z))) F.heap := by
    refine ⟨fun k q hk9 => ?_, by rw [f1, hsz]; omega⟩
    obtain ⟨h1, rfl⟩ := ws_inv hk9
    by_cases e1 : k = n
    · subst e1
      show va_at D cl (b + k, gm_up hp b k _ cG _ k) F.heap
      unfold gm_up
      rw [if_pos rfl]
      show F.heap[b + k]? = some (vp_cell cG _)
      rw [← hsz]
      have ef : (fun i => if i < k1.toNatClampNeg then some (b + (k + 1 + i)) else none) = fun i => if i < k1.toNatClampNeg then some (H.size + 1 + i) else none := by
        funext i
        rw [hsz, show b + (k + 1 + i) = b + k + 1 + i by omega]
      rw [ef]
      exact f2
    · by_cases e2 : n < k
      · show va_at D cl (b + k, gm_up hp b n _ cG _ k) F.heap
        unfold gm_up
        rw [if_neg e1, if_pos ⟨e2, h1⟩]
        show F.heap[b + k]? = some (vp_cell cI z)
        have h9 := hrow (k - n - 1) (by omega)
        rw [hsz, show b + n + 1 + (k - n - 1) = b + k by omega] at h9
        exact h9
      · show va_at D cl (b + k, gm_up hp b n _ cG _ k) F.heap
        unfold gm_up
        rw [if_neg e1, if_neg (fun h => e2 h.1)]
        have hk2 : k < n := by omega
        exact (hG.1 k _ (ws_get hk2)).kept (hold (b + k) (by rw [hsz]; omega))
  obtain ⟨t, a1, b1⟩ := kk F.heap hG1 (gw_S hS (by rw [f1]; omega) hold) F rfl X'
  refine ⟨t, step t ?_, b1⟩
  have e9 : T.heap.size = b + n := by rw [hT, hsz]
  rw [e9]
  exact a1
end GM
