/-! ===== worlds by numbers: the cell k lies at ad k; what it holds is told by a table t out of the ints, longs and refs of a state ===== -/
abbrev SG : Type := (Nat → Nat → Int32) × (Nat → Nat → Int64) × (Nat → Nat → Nat)
abbrev TB : Type := Nat → (Nat → Int32) → (Nat → Int64) → (Nat → Nat) → va_E
def sI (σ : SG) (k i : Nat) (x : Int32) : SG := (va_up σ.1 k (upd (σ.1 k) i x), σ.2.1, σ.2.2)
def sJ (σ : SG) (k i : Nat) (x : Int64) : SG := (σ.1, va_up σ.2.1 k (vp_updL (σ.2.1 k) i x), σ.2.2)
def sR (σ : SG) (k i : Nat) (x : Nat) : SG := (σ.1, σ.2.1, va_up σ.2.2 k (va_up (σ.2.2 k) i x))
def sA (σ : SG) (k : Nat) (f : Nat → Int32) : SG := (va_up σ.1 k f, σ.2.1, σ.2.2)
def ws_h (t : TB) (σ : SG) : Nat → va_E := fun k => t k (σ.1 k) (σ.2.1 k) (σ.2.2 k)
def ws_W (n : Nat) (ad : Nat → Nat) (hp : Nat → va_E) : va_W := (List.range n).map (fun k => (ad k, hp k))
def ws_A (n : Nat) (ad : Nat → Nat) : Nat → Prop := fun q => ∃ k, k < n ∧ q = ad k
def ws_J (n : Nat) (ad : Nat → Nat) : Prop := ∀ i j, i < n → j < n → ad i = ad j → i = j
def ws_P (D : va_G) (cl : List vw_C) (n : Nat) (ad : Nat → Nat) (t : TB) (σ : SG) (H : Heap) : Prop := va_P D cl (ws_W n ad (ws_h t σ)) H
theorem ws_get {n k : Nat} {ad : Nat → Nat} {hp : Nat → va_E} (h : k < n) : (ws_W n ad hp)[k]? = some (ad k, hp k) := by
  simp [ws_W, h]
theorem ws_inv {n k : Nat} {ad : Nat → Nat} {hp : Nat → va_E} {q : Nat × va_E} (h : (ws_W n ad hp)[k]? = some q) : k < n ∧ q = (ad k, hp k) := by
  have hk : k < n := by
    have h2 := (List.getElem?_eq_some_iff.mp h).1
    simpa [ws_W] using h2
  rw [ws_get hk] at h
  exact ⟨hk, (Option.some.inj h).symm⟩
theorem ws_set {n k : Nat} {ad : Nat → Nat} {hp : Nat → va_E} (e : va_E) : (ws_W n ad hp).set k (ad k, e) = ws_W n ad (va_up hp k e) := by
  apply List.ext_getElem?
  intro j
  rw [List.getElem?_set]
  by_cases hj : j < n
  · rw [ws_get hj, ws_get hj]
    by_cases e2 : k = j
    · subst e2
      simp [ws_W, hj, va_up]
    · simp [e2, va_up, Ne.symm e2]
  · by_cases e2 : k = j
    · subst e2
      simp [ws_W, hj]
    · simp [ws_W, hj, e2]
theorem ws_D {n : Nat} {ad : Nat → Nat} {hp : Nat → va_E} (h : ws_J n ad) : va_D (ws_A n ad) (ws_W n ad hp) := by
  refine ⟨fun i j p q hi hj e => ?_, fun k q hk => ?_⟩
  · obtain ⟨h1, rfl⟩ := ws_inv hi
    obtain ⟨h2, rfl⟩ := ws_inv hj
    exact h i j h1 h2 e
  · obtain ⟨h1, rfl⟩ := ws_inv hk
    exact ⟨k, h1, rfl⟩
theorem ws_upI (t : TB) (σ : SG) (k : Nat) (a : Nat → Int32) : va_up (ws_h t σ) k (t k a (σ.2.1 k) (σ.2.2 k)) = ws_h t (va_up σ.1 k a, σ.2.1, σ.2.2) := by
  funext j
  by_cases e : j = k
  · subst e
    simp [va_up, ws_h]
  · simp [va_up, ws_h, e]
theorem ws_upJ (t : TB) (σ : SG) (k : Nat) (b : Nat → Int64) : va_up (ws_h t σ) k (t k (σ.1 k) b (σ.2.2 k)) = ws_h t (σ.1, va_up σ.2.1 k b, σ.2.2) := by
  funext j
  by_cases e : j = k
  · subst e
    simp [va_up, ws_h]
  · simp [va_up, ws_h, e]
theorem ws_upR (t : TB) (σ : SG) (k : Nat) (r : Nat → Nat) : va_up (ws_h t σ) k (t k (σ.1 k) (σ.2.1 k) r) = ws_h t (σ.1, σ.2.1, va_up σ.2.2 k r) := by
  funext j
  by_cases e : j = k
  · subst e
    simp [va_up, ws_h]
  · simp [va_up, ws_h, e]
-- what a mirror is written in
def lS {α β : Type} (a : α) (f : α → Option β) : Option β := f a
theorem lS_e {α β : Type} {a : α} {f : α → Option β} {r : β} (h : lS a f = some r) : ∃ z, z = a ∧ f z = some r := ⟨a, rfl, h⟩
theorem lS_u {α β : Type} {a z : α} {f : α → Option β} {r : β} (h : lS a f = some r) (e : z = a) : f z = some r := by
  subst e
  exact h
def gB {β : Type} (b : Bool) (k : Option β) : Option β := if b = true then k else none
theorem gB_e {β : Type} {b : Bool} {k : Option β} {r : β} (h : gB b k = some r) : b = true ∧ k = some r := by
  unfold gB at h
  by_cases e : b = true
  · rw [if_pos e] at h
    exact ⟨e, h⟩
  · rw [if_neg e] at h
    cases h
def inB (i : Int32) (n : Nat) : Bool := decide (¬ (i < 0 ∨ n ≤ i.toNatClampNeg))
theorem inB_e {i : Int32} {n : Nat} (h : inB i n = true) : vp_in i n := by
  show ¬ (i < 0 ∨ n ≤ i.toNatClampNeg)
  exact of_decide_eq_true h
theorem inB_lt {i : Int32} {n : Nat} (h : inB i n = true) : i.toNatClampNeg < n := Nat.not_le.mp fun q => inB_e h (Or.inr q)
def isZ (v : Int32) : Bool := decide (v = 0 ∨ v = 1)
theorem isZ_n {v : Int32} (h : isZ v = true) : narrow .boolean (.int v) = .int v := by
  rcases (of_decide_eq_true h : v = 0 ∨ v = 1) with rfl | rfl <;> rfl
theorem isZ_f {v : Int32} (h : isZ v = true) : fits .boolean (.int v) = true := by
  rcases (of_decide_eq_true h : v = 0 ∨ v = 1) with rfl | rfl <;> rfl
def ltB (i n : Nat) : Bool := decide (i < n)
theorem ltB_e {i n : Nat} (h : ltB i n = true) : i < n := of_decide_eq_true h
def nzB (v : Int32) : Bool := decide (¬ v = 0)
theorem nzB_e {v : Int32} (h : nzB v = true) : ¬ v = 0 := of_decide_eq_true h
def nzL (v : Int64) : Bool := decide (¬ v = 0)
theorem nzL_e {v : Int64} (h : nzL v = true) : ¬ v = 0 := of_decide_eq_true h
def bi {α β : Type} (a : Option (α × SG)) (f : α → SG → Option β) : Option β := match a with
  | none => none
  | some q => f q.1 q.2
theorem bi_e {α β : Type} {a : Option (α × SG)} {f : α → SG → Option β} {r : β} (h : bi a f = some r) : ∃ x σ, a = some (x, σ) ∧ f x σ = some r := by
  cases a with
  | none => cases h
  | some q => exact ⟨q.1, q.2, rfl, h⟩
def FU : Nat := 1000000000
theorem if_p {c : Prop} [Decidable c] {β : Type} {a b : Option β} {r : β} (h : (if c then a else b) = some r) (hc : c) : a = some r := by
  rw [if_pos hc] at h
  exact h
theorem if_n {c : Prop} [Decidable c] {β : Type} {a b : Option β} {r : β} (h : (if c then a else b) = some r) (hc : ¬ c) : b = some r := by
  rw [if_neg hc] at h
  exact h
section WR
variable {p : Program} {l : Launch} {e : Env} {R : Room} {s : State} {m : MethodId} {args : Array Value} {below : List Frame} {meth : Method} {c : Code} {H : Heap} {locs : List Loc} {cells slots : Nat} {Q : State → Prop}
variable {cc : ByteArray} {pc : Nat} {ls : Array Slot} {rest : List Value} {D : va_G} {cl : List vw_C} {n : Nat} {ad : Nat → Nat} {t : TB} {σ : SG} {tys : List (ClassId × FieldType)} {H0 : Heap}
theorem wr_get (hx : p.tables.exec = Jvm.exec) (hb : c.code = cc) {own ref C : String} {T : u_T} {N ci index : Nat} {Ts : List Cond} (hts : ∀ w ∈ Ts, w.before args s = true) (hin : ∀ w ∈ u_ws C T N, w ∈ Ts) (hown : s.vm.findClass own = some m.cls) (hK : va_K D cl tys s) (hP : ws_P D cl n ad t σ H) {k : Nat} (hk : k < n)
    {fs : List Value} (he : t k (σ.1 k) (σ.2.1 k) (σ.2.2 k) = .inr (ci, fs)) (hc : cl[ci]? = some (C, T, N)) (f : Nat) (hf : f < N) (hlink : (Cond.fieldLink own index ref (T f).2.1 (T f).2.2.1).before args s = true) (hsame : ∀ x, s.fieldFound? (T f).1 (T f).2.1 (T f).2.2.1 = some x → s.fieldFound? ref (T f).2.1 (T f).2.2.1 = some x)
    {v : Value} (hv : fs[f]? = some v) (hdg : decode cc pc = .ok (.getfield index, 3))
    (kk : W p l e R s m args below meth c H locs cells slots Q (F0 m (pc + 3) ls (v :: rest))) : W p l e R s m args below meth c H locs cells slots Q (F0 m pc ls (.ref (ad k) :: rest)) :=
  va_get hx hb hts hin hown hK hP k (fs := fs) (by rw [ws_get hk]; exact congrArg (fun z => some (ad k, z)) he) hc f hf hlink hsame hv hdg kk
theorem wr_put (hx : p.tables.exec = Jvm.exec) (hb : c.code = cc) {own ref C : String} {T : u_T} {N ci index : Nat} {Ts : List Cond} (hts : ∀ w ∈ Ts, w.before args s = true) (hin : ∀ w ∈ u_ws C T N, w ∈ Ts) (ty0 : Nat → FieldType) (hty : ∀ k, k < N → parseFieldDescriptor (T k).2.2.1 = some (ty0 k)) (hnm : ∀ a, a < N → ∀ b, b < N → a ≠ b → (T a).2.1 ≠ (T b).2.1) (hown : s.vm.findClass own = some m.cls) (hK : va_K D cl tys s) (hP : ws_P D cl n ad t σ H) (hJ : ws_J n ad) (hS : va_S (ws_A n ad) H0 H locs) {k : Nat} (hk : k < n)
    {fs : List Value} (he : t k (σ.1 k) (σ.2.1 k) (σ.2.2 k) = .inr (ci, fs)) (hc : cl[ci]? = some (C, T, N)) (f : Nat) (hf : f < N) (hlink : (Cond.fieldLink own index ref (T f).2.1 (T f).2.2.1).before args s = true) (hsame : ∀ x, s.fieldFound? (T f).1 (T f).2.1 (T f).2.2.1 = some x → s.fieldFound? ref (T f).2.1 (T f).2.2.1 = some x) (hfin : (T f).2.2.2 = false)
    {ty : FieldType} {v : Value} (hd : parseFieldDescriptor (T f).2.2.1 = some ty) (hn : narrow ty v = v) (hfit : fits ty v = true) (hl : f < fs.length) {σ' : SG} (hσ : va_up (ws_h t σ) k (.inr (ci, fs.set f v)) = ws_h t σ') (hdg : decode cc pc = .ok (.putfield index, 3))
    (kk : ∀ (H1 : Heap) (locs1 : List Loc), ws_P D cl n ad t σ' H1 → va_S (ws_A n ad) H0 H1 locs1 → W p l e R s m args below meth c H1 locs1 cells slots Q (F0 m (pc + 3) ls rest)) : W p l e R s m args below meth c H locs cells slots Q (F0 m pc ls (v :: .ref (ad k) :: rest)) :=
  va_put hx hb hts hin ty0 hty hnm hown hK hP (ws_D hJ) hS k (fs := fs) (by rw [ws_get hk]; exact congrArg (fun z => some (ad k, z)) he) hc f hf hlink hsame hfin hd hn hfit hl hdg (fun H1 locs1 h1 _ h3 => kk H1 locs1 (by rw [ws_set, hσ] at h1; exact h1) h3)
theorem wr_iald (hx : p.tables.exec = Jvm.exec) (hb : c.code = cc) (hK : va_K D cl tys s) (hP : ws_P D cl n ad t σ H) {k : Nat} (hk : k < n) (t0 : Nat) {cA : ClassId} {N : Nat} (hc : t k (σ.1 k) (σ.2.1 k) (σ.2.2 k) = .inl (cA, N, .inl (σ.1 k))) (ht : tys[t0]? = some (cA, .int)) {i : Int32} (hin : inB i N = true) (hdg : decode cc pc = .ok (.iaload, 1))
    (kk : W p l e R s m args below meth c H locs cells slots Q (F0 m (pc + 1) ls (.int (σ.1 k i.toNatClampNeg) :: rest))) : W p l e R s m args below meth c H locs cells slots Q (F0 m pc ls (.int i :: .ref (ad k) :: rest)) :=
  va_iald hx hb hK hP k t0 (f := σ.1 k) (by rw [ws_get hk]; exact congrArg (fun z => some (ad k, z)) hc) ht (inB_e hin) hdg kk
theorem wr_zald (hx : p.tables.exec = Jvm.exec) (hb : c.code = cc) (hK : va_K D cl tys s) (hP : ws_P D cl n ad t σ H) {k : Nat} (hk : k < n) (t0 : Nat) {cA : ClassId} {N : Nat} (hc : t k (σ.1 k) (σ.2.1 k) (σ.2.2 k) = .inl (cA, N, .inl (σ.1 k))) (ht : tys[t0]? = some (cA, .boolean)) {i : Int32} (hin : inB i N = true) (hdg : decode cc pc = .ok (.baload, 1))
    (kk : W p l e R s m args below meth c H locs cells slots Q (F0 m (pc + 1) ls (.int (σ.1 k i.toNatClampNeg) :: rest))) : W p l e R s m args below meth c H locs cells slots Q (F0 m pc ls (.int i :: .ref (ad k) :: rest)) :=
  va_zald hx hb hK hP k t0 (f := σ.1 k) (by rw [ws_get hk]; exact congrArg (fun z => some (ad k, z)) hc) ht (inB_e hin) hdg kk
theorem wr_bald (hx : p.tables.exec = Jvm.exec) (hb : c.code = cc) (hK : va_K D cl tys s) (hP : ws_P D cl n ad t σ H) {k : Nat} (hk : k < n) (t0 : Nat) {cA : ClassId} {N : Nat} (hc : t k (σ.1 k) (σ.2.1 k) (σ.2.2 k) = .inl (cA, N, .inl (σ.1 k))) (ht : tys[t0]? = some (cA, .byte)) {i : Int32} (hin : inB i N = true) (hdg : decode cc pc = .ok (.baload, 1))
    (kk : W p l e R s m args below meth c H locs cells slots Q (F0 m (pc + 1) ls (.int (σ.1 k i.toNatClampNeg) :: rest))) : W p l e R s m args below meth c H locs cells slots Q (F0 m pc ls (.int i :: .ref (ad k) :: rest)) :=
  va_bald hx hb hK hP k t0 (f := σ.1 k) (by rw [ws_get hk]; exact congrArg (fun z => some (ad k, z)) hc) ht (inB_e hin) hdg kk
theorem wr_lald (hx : p.tables.exec = Jvm.exec) (hb : c.code = cc) (hK : va_K D cl tys s) (hP : ws_P D cl n ad t σ H) {k : Nat} (hk : k < n) (t0 : Nat) {cA : ClassId} {N : Nat} (hc : t k (σ.1 k) (σ.2.1 k) (σ.2.2 k) = .inl (cA, N, .inr (.inl (σ.2.1 k)))) (ht : tys[t0]? = some (cA, .long)) {i : Int32} (hin : inB i N = true) (hdg : decode cc pc = .ok (.laload, 1))
    (kk : W p l e R s m args below meth c H locs cells slots Q (F0 m (pc + 1) ls (.long (σ.2.1 k i.toNatClampNeg) :: rest))) : W p l e R s m args below meth c H locs cells slots Q (F0 m pc ls (.int i :: .ref (ad k) :: rest)) :=
  va_lald hx hb hK hP k t0 (f := σ.2.1 k) (by rw [ws_get hk]; exact congrArg (fun z => some (ad k, z)) hc) ht (inB_e hin) hdg kk
theorem wr_iast (hx : p.tables.exec = Jvm.exec) (hb : c.code = cc) (hK : va_K D cl tys s) (hP : ws_P D cl n ad t σ H) (hJ : ws_J n ad) (hS : va_S (ws_A n ad) H0 H locs) {k : Nat} (hk : k < n) (t0 : Nat) {cA : ClassId} {N : Nat} (hc : ∀ a b r, t k a b r = .inl (cA, N, .inl a)) (ht : tys[t0]? = some (cA, .int)) {i x : Int32} (hin : inB i N = true) (hdg : decode cc pc = .ok (.iastore, 1))
    (kk : ∀ (H1 : Heap) (locs1 : List Loc), ws_P D cl n ad t (sI σ k i.toNatClampNeg x) H1 → va_S (ws_A n ad) H0 H1 locs1 → W p l e R s m args below meth c H1 locs1 cells slots Q (F0 m (pc + 1) ls rest)) : W p l e R s m args below meth c H locs cells slots Q (F0 m pc ls (.int x :: .int i :: .ref (ad k) :: rest)) :=
  va_iast hx hb hK hP (ws_D hJ) hS k t0 (f := σ.1 k) (by rw [ws_get hk]; exact congrArg (fun z => some (ad k, z)) (hc _ _ _)) ht (inB_e hin) hdg (fun H1 locs1 h1 _ h3 => kk H1 locs1 (by rw [ws_set, ← hc (upd (σ.1 k) i.toNatClampNeg x) (σ.2.1 k) (σ.2.2 k), ws_upI] at h1; exact h1) h3)
theorem wr_zast (hx : p.tables.exec = Jvm.exec) (hb : c.code = cc) (hK : va_K D cl tys s) (hP : ws_P D cl n ad t σ H) (hJ : ws_J n ad) (hS : va_S (ws_A n ad) H0 H locs) {k : Nat} (hk : k < n) (t0 : Nat) {cA : ClassId} {N : Nat} (hc : ∀ a b r, t k a b r = .inl (cA, N, .inl a)) (ht : tys[t0]? = some (cA, .boolean)) {i x : Int32} (hin : inB i N = true) (hx1 : vp_nar .boolean x = x) (hdg : decode cc pc = .ok (.bastore, 1))
    (kk : ∀ (H1 : Heap) (locs1 : List Loc), ws_P D cl n ad t (sI σ k i.toNatClampNeg x) H1 → va_S (ws_A n ad) H0 H1 locs1 → W p l e R s m args below meth c H1 locs1 cells slots Q (F0 m (pc + 1) ls rest)) : W p l e R s m args below meth c H locs cells slots Q (F0 m pc ls (.int x :: .int i :: .ref (ad k) :: rest)) :=
  va_zast hx hb hK hP (ws_D hJ) hS k t0 (f := σ.1 k) (by rw [ws_get hk]; exact congrArg (fun z => some (ad k, z)) (hc _ _ _)) ht (inB_e hin) hdg (fun H1 locs1 h1 _ h3 => kk H1 locs1 (by rw [hx1, ws_set, ← hc (upd (σ.1 k) i.toNatClampNeg x) (σ.2.1 k) (σ.2.2 k), ws_upI] at h1; exact h1) h3)
theorem wr_bast (hx : p.tables.exec = Jvm.exec) (hb : c.code = cc) (hK : va_K D cl tys s) (hP : ws_P D cl n ad t σ H) (hJ : ws_J n ad) (hS : va_S (ws_A n ad) H0 H locs) {k : Nat} (hk : k < n) (t0 : Nat) {cA : ClassId} {N : Nat} (hc : ∀ a b r, t k a b r = .inl (cA, N, .inl a)) (ht : tys[t0]? = some (cA, .byte)) {i x : Int32} (hin : inB i N = true) (hdg : decode cc pc = .ok (.bastore, 1))
    (kk : ∀ (H1 : Heap) (locs1 : List Loc), ws_P D cl n ad t (sI σ k i.toNatClampNeg x.toInt8.toInt32) H1 → va_S (ws_A n ad) H0 H1 locs1 → W p l e R s m args below meth c H1 locs1 cells slots Q (F0 m (pc + 1) ls rest)) : W p l e R s m args below meth c H locs cells slots Q (F0 m pc ls (.int x :: .int i :: .ref (ad k) :: rest)) :=
  va_bast hx hb hK hP (ws_D hJ) hS k t0 (f := σ.1 k) (by rw [ws_get hk]; exact congrArg (fun z => some (ad k, z)) (hc _ _ _)) ht (inB_e hin) hdg (fun H1 locs1 h1 _ h3 => kk H1 locs1 (by rw [vp_nar_byte, ws_set, ← hc (upd (σ.1 k) i.toNatClampNeg x.toInt8.toInt32) (σ.2.1 k) (σ.2.2 k), ws_upI] at h1; exact h1) h3)
theorem wr_last (hx : p.tables.exec = Jvm.exec) (hb : c.code = cc) (hK : va_K D cl tys s) (hP : ws_P D cl n ad t σ H) (hJ : ws_J n ad) (hS : va_S (ws_A n ad) H0 H locs) {k : Nat} (hk : k < n) (t0 : Nat) {cA : ClassId} {N : Nat} (hc : ∀ a b r, t k a b r = .inl (cA, N, .inr (.inl b))) (ht : tys[t0]? = some (cA, .long)) {i : Int32} {x : Int64} (hin : inB i N = true) (hdg : decode cc pc = .ok (.lastore, 1))
    (kk : ∀ (H1 : Heap) (locs1 : List Loc), ws_P D cl n ad t (sJ σ k i.toNatClampNeg x) H1 → va_S (ws_A n ad) H0 H1 locs1 → W p l e R s m args below meth c H1 locs1 cells slots Q (F0 m (pc + 1) ls rest)) : W p l e R s m args below meth c H locs cells slots Q (F0 m pc ls (.long x :: .int i :: .ref (ad k) :: rest)) :=
  va_last hx hb hK hP (ws_D hJ) hS k t0 (f := σ.2.1 k) (by rw [ws_get hk]; exact congrArg (fun z => some (ad k, z)) (hc _ _ _)) ht (inB_e hin) hdg (fun H1 locs1 h1 _ h3 => kk H1 locs1 (by rw [ws_set, ← hc (σ.1 k) (vp_updL (σ.2.1 k) i.toNatClampNeg x) (σ.2.2 k), ws_upJ] at h1; exact h1) h3)
theorem wr_alen (hx : p.tables.exec = Jvm.exec) (hb : c.code = cc) (hK : va_K D cl tys s) (hP : ws_P D cl n ad t σ H) {k : Nat} (hk : k < n) (t0 : Nat) {cA : ClassId} {N : Nat} {z : (Nat → Int32) ⊕ (Nat → Int64) ⊕ (Nat → UInt32) ⊕ (Nat → UInt64) ⊕ (Nat → Option Nat)} (hc : t k (σ.1 k) (σ.2.1 k) (σ.2.2 k) = .inl (cA, N, z)) {ty : FieldType} (ht : tys[t0]? = some (cA, ty)) {v : Int32} (hv : Int32.ofNat N = v) (hdg : decode cc pc = .ok (.arraylength, 1))
    (kk : W p l e R s m args below meth c H locs cells slots Q (F0 m (pc + 1) ls (.int v :: rest))) : W p l e R s m args below meth c H locs cells slots Q (F0 m pc ls (.ref (ad k) :: rest)) :=
  va_alen hx hb hK hP k t0 (x := (N, z)) (by rw [ws_get hk]; exact congrArg (fun z => some (ad k, z)) hc) ht hv hdg kk
/-- a row of references, its place known -/
theorem wr_aald (hx : p.tables.exec = Jvm.exec) (hb : c.code = cc) (hK : va_K D cl tys s) (hP : ws_P D cl n ad t σ H) {k : Nat} (hk : k < n) (t0 : Nat) {cA : ClassId} {ty : FieldType} (hty : ty.isReference = true) {N : Nat} {f : Nat → Option Nat} (hc : t k (σ.1 k) (σ.2.1 k) (σ.2.2 k) = .inl (cA, N, .inr (.inr (.inr (.inr f))))) (ht : tys[t0]? = some (cA, ty)) {i : Int32} (hin : inB i N = true) {q : Nat} (hq : f i.toNatClampNeg = some q) (hdg : decode cc pc = .ok (.aaload, 1))
    (kk : W p l e R s m args below meth c H locs cells slots Q (F0 m (pc + 1) ls (.ref q :: rest))) : W p l e R s m args below meth c H locs cells slots Q (F0 m pc ls (.int i :: .ref (ad k) :: rest)) := by
  have hlt : i.toNatClampNeg < N := inB_lt hin
  have hP1 := hP k _ (ws_get hk)
  have hc1 : va_at D cl (ad k, .inl (cA, N, .inr (.inr (.inr (.inr f))))) H := by
    have e2 : ws_h t σ k = .inl (cA, N, .inr (.inr (.inr (.inr f)))) := hc
    rw [e2] at hP1
    exact hP1
  exact W.aald (v := .ref q) (ty := ty) hx hb hc1 ((hK.2 t0 _ ht).1 N (fun j => va_rf (f j))) hty (fun q => by cases q) (by show ¬ (i < 0 ∨ (arrV _ _ _).slots.size ≤ _); rw [arrV_size]; exact inB_e hin) (by show (arrV _ _ _).slots[_]? = _; rw [arrV_read _ _ hlt, hq]; rfl) rfl rfl hdg kk
end WR
theorem ws_pI {t : TB} {σ : SG} {k ci f : Nat} {x : Int32} {F : (Nat → Int32) → (Nat → Int64) → (Nat → Nat) → List Value} (hc : ∀ a b r, t k a b r = .inr (ci, F a b r)) (hs : (F (σ.1 k) (σ.2.1 k) (σ.2.2 k)).set f (.int x) = F (upd (σ.1 k) f x) (σ.2.1 k) (σ.2.2 k)) : va_up (ws_h t σ) k (.inr (ci, (F (σ.1 k) (σ.2.1 k) (σ.2.2 k)).set f (.int x))) = ws_h t (sI σ k f x) := by
  rw [hs, ← hc, ws_upI]
  rfl
theorem ws_pJ {t : TB} {σ : SG} {k ci f : Nat} {x : Int64} {F : (Nat → Int32) → (Nat → Int64) → (Nat → Nat) → List Value} (hc : ∀ a b r, t k a b r = .inr (ci, F a b r)) (hs : (F (σ.1 k) (σ.2.1 k) (σ.2.2 k)).set f (.long x) = F (σ.1 k) (vp_updL (σ.2.1 k) f x) (σ.2.2 k)) : va_up (ws_h t σ) k (.inr (ci, (F (σ.1 k) (σ.2.1 k) (σ.2.2 k)).set f (.long x))) = ws_h t (sJ σ k f x) := by
  rw [hs, ← hc, ws_upJ]
  rfl
theorem ws_pR {t : TB} {σ : SG} {k ci f x : Nat} {v : Value} {F : (Nat → Int32) → (Nat → Int64) → (Nat → Nat) → List Value} (hc : ∀ a b r, t k a b r = .inr (ci, F a b r)) (hs : (F (σ.1 k) (σ.2.1 k) (σ.2.2 k)).set f v = F (σ.1 k) (σ.2.1 k) (va_up (σ.2.2 k) f x)) : va_up (ws_h t σ) k (.inr (ci, (F (σ.1 k) (σ.2.1 k) (σ.2.2 k)).set f v)) = ws_h t (sR σ k f x) := by
  rw [hs, ← hc, ws_upR]
  rfl
/-- a method's world -/
def ww (D : va_G) (cl : List vw_C) (n : Nat) (ad : Nat → Nat) (t : TB) (tys : List (ClassId × FieldType)) (σ : SG) (U : State) : Prop := ws_J n ad ∧ ws_P D cl n ad t σ U.heap ∧ va_K D cl tys U
theorem ww_blind {D : va_G} {cl : List vw_C} {n : Nat} {ad : Nat → Nat} {t : TB} {tys : List (ClassId × FieldType)} {σ : SG} {av : List Value} : FrameBlind (va_Pc av (ww D cl n ad t tys σ)) := fun a U g mk q => ⟨q.1, q.2.1, q.2.2.1, va_K.moved (u := U) (U := U.calling g mk a) (Vm.Alike.refl U.vm) q.2.2.2⟩
theorem ww_at {D : va_G} {cl : List vw_C} {n : Nat} {ad : Nat → Nat} {t : TB} {tys : List (ClassId × FieldType)} {σ : SG} {s U : State} {H : Heap} (hJ : ws_J n ad) (hP : ws_P D cl n ad t σ H) (hK : va_K D cl tys s) (hU : U.heap = H) (hW : s.WarmedH U.vm) : ww D cl n ad t tys σ U := ⟨hJ, by rw [hU]; exact hP, va_K.moved hW.alike hK⟩
section WQ
variable {p : Program} {l : Launch} {e : Env} {R : Room} {s : State} {m : MethodId} {args : Array Value} {below : List Frame} {meth : Method} {c : Code} {H : Heap} {locs : List Loc} {cells slots : Nat} {Q : State → Prop}
variable {cc : ByteArray} {pc : Nat} {ls : Array Slot} {rest st0 : List Value} {D : va_G} {cl : List vw_C} {n : Nat} {ad : Nat → Nat} {t : TB} {σ : SG} {tys : List (ClassId × FieldType)} {H0 : Heap} {a : Array Value}
theorem wr_recv (hK : va_K D cl tys s) (hP : ws_P D cl n ad t σ H) {k : Nat} (hk : k < n) {ci : Nat} {fs : List Value} (he : t k (σ.1 k) (σ.2.1 k) (σ.2.2 k) = .inr (ci, fs)) {q : vw_C} (hc : cl[ci]? = some q) : ∃ cell : Cell, H[ad k]? = some cell ∧ cell.vm.isStatics = false ∧ s.vm.findClass q.1 = some cell.cls :=
  va_recv hK hP hc (q0 := k) (fs := fs) (by rw [ws_get hk]; exact congrArg (fun z => some (ad k, z)) he)
/-- what a method owes that leaves the world at res.2, with the answer res.1 -/
abbrev wQi (D : va_G) (cl : List vw_C) (n : Nat) (ad : Nat → Nat) (t : TB) (tys : List (ClassId × FieldType)) (res : Int32 × SG) : Array Value → State → Outcome → State → Prop := va_Qi (fun r σ' => r = res.1 ∧ σ' = res.2) (ww D cl n ad t tys) (ws_A n ad)
abbrev wQl (D : va_G) (cl : List vw_C) (n : Nat) (ad : Nat → Nat) (t : TB) (tys : List (ClassId × FieldType)) (res : Int64 × SG) : Array Value → State → Outcome → State → Prop := va_Ql (fun r σ' => r = res.1 ∧ σ' = res.2) (ww D cl n ad t tys) (ws_A n ad)
abbrev wQv (D : va_G) (cl : List vw_C) (n : Nat) (ad : Nat → Nat) (t : TB) (tys : List (ClassId × FieldType)) (res : Unit × SG) : Array Value → State → Outcome → State → Prop := va_Qv (fun σ' => σ' = res.2) (ww D cl n ad t tys) (ws_A n ad)
theorem wr_iret (hx : p.tables.exec = Jvm.exec) (hb : c.code = cc) (hr : meth.sig.returnType = some .int) (hlocks : meth.locks = false) (hJ : ws_J n ad) (hK : va_K D cl tys s) (hP : ws_P D cl n ad t σ H) (hS : va_S (ws_A n ad) s.heap H locs) {v : Int32} {res : Int32 × SG} (h : some (v, σ) = some res) (hdg : decode cc pc = .ok (.ireturn, 1)) :
    W p l e R s m args below meth c H locs cells slots (MQ below (wQi D cl n ad t tys res) args s cells slots (ws_A n ad)) (F0 m pc ls [.int v]) := by
  obtain rfl := Option.some.inj h
  exact W.iret (v := v) hx hb hr (fun t ht hW => ⟨⟨v, σ, rfl, ⟨rfl, rfl⟩, ww_at hJ hP hK ht hW⟩, hS.F ht⟩) hS.2.2 hdg
theorem wr_zret (hx : p.tables.exec = Jvm.exec) (hb : c.code = cc) {ty : FieldType} (hr : meth.sig.returnType = some ty) (hlocks : meth.locks = false) (hJ : ws_J n ad) (hK : va_K D cl tys s) (hP : ws_P D cl n ad t σ H) (hS : va_S (ws_A n ad) s.heap H locs) {v : Int32} (hn : narrow ty (.int v) = .int v) {res : Int32 × SG} (h : some (v, σ) = some res) (hdg : decode cc pc = .ok (.ireturn, 1)) :
    W p l e R s m args below meth c H locs cells slots (MQ below (wQi D cl n ad t tys res) args s cells slots (ws_A n ad)) (F0 m pc ls [.int v]) := by
  obtain rfl := Option.some.inj h
  exact W.zret (v := v) hx hb hr hn (fun t ht hW => ⟨⟨v, σ, rfl, ⟨rfl, rfl⟩, ww_at hJ hP hK ht hW⟩, hS.F ht⟩) hS.2.2 hdg
theorem wr_lret (hx : p.tables.exec = Jvm.exec) (hb : c.code = cc) (hr : meth.sig.returnType = some .long) (hlocks : meth.locks = false) (hJ : ws_J n ad) (hK : va_K D cl tys s) (hP : ws_P D cl n ad t σ H) (hS : va_S (ws_A n ad) s.heap H locs) {v : Int64} {res : Int64 × SG} (h : some (v, σ) = some res) (hdg : decode cc pc = .ok (.lreturn, 1)) :
    W p l e R s m args below meth c H locs cells slots (MQ below (wQl D cl n ad t tys res) args s cells slots (ws_A n ad)) (F0 m pc ls [.long v]) := by
  obtain rfl := Option.some.inj h
  exact W.lret (v := v) hx hb hr (fun t ht hW => ⟨⟨v, σ, rfl, ⟨rfl, rfl⟩, ww_at hJ hP hK ht hW⟩, hS.F ht⟩) hS.2.2 hdg
theorem wr_vret (hx : p.tables.exec = Jvm.exec) (hb : c.code = cc) (hr : meth.sig.returnType = none) (hlocks : meth.locks = false) (hJ : ws_J n ad) (hK : va_K D cl tys s) (hP : ws_P D cl n ad t σ H) (hS : va_S (ws_A n ad) s.heap H locs) {res : Unit × SG} (h : some ((), σ) = some res) (hdg : decode cc pc = .ok (.return_, 1)) :
    W p l e R s m args below meth c H locs cells slots (MQ below (wQv D cl n ad t tys res) args s cells slots (ws_A n ad)) (F0 m pc ls []) := by
  obtain rfl := Option.some.inj h
  exact W.vret hx hb hr (fun t ht hW => ⟨⟨σ, rfl, rfl, ww_at hJ hP hK ht hW⟩, hS.F ht⟩) hS.2.2 hdg
theorem wr_calli {res : Int32 × SG} (hr : va_Run p l e R s m args below meth c H locs cells slots 0 0 (F0 m pc ls st0) rest (wQi D cl n ad t tys res a) (ws_A n ad)) (hS : va_S (ws_A n ad) H0 H locs)
    (kk : ∀ (H1 : Heap) (locs1 : List Loc), ws_P D cl n ad t res.2 H1 → va_S (ws_A n ad) H0 H1 locs1 → W p l e R s m args below meth c H1 locs1 cells slots Q (F0 m (pc + 3) ls (.int res.1 :: rest))) : W p l e R s m args below meth c H locs cells slots Q (F0 m pc ls st0) :=
  va_calli hr hS (fun q _ h => h) (fun q h => h) (fun r u t H1 locs1 ht hvm hw hB hz1 hk1 hS => by
    obtain ⟨rfl, rfl⟩ := hw
    have hP1 := hB.2.1
    rw [ht] at hP1
    exact kk H1 locs1 hP1 hS)
theorem wr_calll {res : Int64 × SG} (hr : va_Run p l e R s m args below meth c H locs cells slots 0 0 (F0 m pc ls st0) rest (wQl D cl n ad t tys res a) (ws_A n ad)) (hS : va_S (ws_A n ad) H0 H locs)
    (kk : ∀ (H1 : Heap) (locs1 : List Loc), ws_P D cl n ad t res.2 H1 → va_S (ws_A n ad) H0 H1 locs1 → W p l e R s m args below meth c H1 locs1 cells slots Q (F0 m (pc + 3) ls (.long res.1 :: rest))) : W p l e R s m args below meth c H locs cells slots Q (F0 m pc ls st0) :=
  va_calll hr hS (fun q _ h => h) (fun q h => h) (fun r u t H1 locs1 ht hvm hw hB hz1 hk1 hS => by
    obtain ⟨rfl, rfl⟩ := hw
    have hP1 := hB.2.1
    rw [ht] at hP1
    exact kk H1 locs1 hP1 hS)
theorem wr_callv {res : Unit × SG} (hr : va_Run p l e R s m args below meth c H locs cells slots 0 0 (F0 m pc ls st0) rest (wQv D cl n ad t tys res a) (ws_A n ad)) (hS : va_S (ws_A n ad) H0 H locs)
    (kk : ∀ (H1 : Heap) (locs1 : List Loc), ws_P D cl n ad t res.2 H1 → va_S (ws_A n ad) H0 H1 locs1 → W p l e R s m args below meth c H1 locs1 cells slots Q (F0 m (pc + 3) ls rest)) : W p l e R s m args below meth c H locs cells slots Q (F0 m pc ls st0) :=
  va_callv hr hS (fun q _ h => h) (fun q h => h) (fun u t H1 locs1 ht hvm hw hB hz1 hk1 hS => by
    obtain rfl := hw
    have hP1 := hB.2.1
    rw [ht] at hP1
    exact kk H1 locs1 hP1 hS)
end WQ
/-- what holds in a method's body: the machine, its code, its words, the world's tables -/
def cx (p : Program) (s : State) (m : MethodId) (args : Array Value) (meth : Method) (c : Code) (cc : ByteArray) (ret : Option FieldType) (maxL : Nat) (own : String) (Ts : List Cond) (D : va_G) (cl : List vw_C) (n : Nat) (ad : Nat → Nat) (tys : List (ClassId × FieldType)) : Prop :=
  p.tables.exec = Jvm.exec ∧ c.code = cc ∧ meth.sig.returnType = ret ∧ meth.locks = false ∧ c.maxLocals = maxL ∧ s.vm.findClass own = some m.cls ∧ (∀ w ∈ Ts, w.before args s = true) ∧ ws_J n ad ∧ va_K D cl tys s
