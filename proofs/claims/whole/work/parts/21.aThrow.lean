/-- what is known of the class's texts and of the machine's own statics, for its throws -/
def EX (Z : ZT) : EF := fun A U H => vk_R RX11 141 "nothing such was found" (za Z 1000) U ∧ vk_R RX11 165 "no such tune" (za Z 1001) U ∧ vk_R RX11 173 "no unit goes" (za Z 1002) U ∧ vx_Zq Bundle.tN "UNASSIGNED_STACK" Bundle.steD A U H ∧ vx_Zq Bundle.tN "SUPPRESSED_SENTINEL" Bundle.listD A U H ∧ va_Nc "java/lang/ArithmeticException" "java/lang/IndexOutOfBoundsException" U
theorem EX_ok (Z : ZT) : eOK (EX Z) := fun A u U H H1 hW hk h => ⟨h.1.warm hW, h.2.1.warm hW, h.2.2.1.warm hW, (h.2.2.2.1.moved hW.alike).kept hk, (h.2.2.2.2.1.moved hW.alike).kept hk, h.2.2.2.2.2.moved hW.alike⟩
theorem ws_keep {D : va_G} {cl : List vw_C} {n : Nat} {ad : Nat → Nat} {t : TB} {σ : SG} {H H1 : Heap} (hP : ws_P D cl n ad t σ H) (hk : ∀ k, k < n → H1[ad k]? = H[ad k]?) : ws_P D cl n ad t σ H1 := va_P.kept hP (fun k q h => by
  obtain ⟨h1, rfl⟩ := ws_inv h
  exact hk k h1)
theorem ws_keepH {D : va_G} {cl : List vw_C} {n : Nat} {ad : Nat → Nat} {t : TB} {σ : SG} {H H1 : Heap} (hP : ws_P D cl n ad t σ H) (hk : ∀ q : Nat, q < H.size → H1[q]? = H[q]?) : ws_P D cl n ad t σ H1 := ws_keep hP (fun k h => hk _ ((hP k _ (ws_get h)).lt))
def exName (b : Bool) : String := if b then "java/lang/IndexOutOfBoundsException" else "java/lang/ArithmeticException"
section YQ
variable {p : Program} {l : Launch} {e : Env} {R : Room} {s : State} {m : MethodId} {args : Array Value} {below : List Frame} {meth : Method} {c : Code} {H : Heap} {locs : List Loc} {cells slots : Nat} {Q : State → Prop}
variable {cc : ByteArray} {pc : Nat} {ls : Array Slot} {rest st0 : List Value} {E : EF} {D : va_G} {cl : List vw_C} {n : Nat} {ad : Nat → Nat} {t : TB} {σ : SG} {tys : List (ClassId × FieldType)} {H0 : Heap} {a : Array Value}
abbrev yQi (E : EF) (D : va_G) (cl : List vw_C) (n : Nat) (ad : Nat → Nat) (t : TB) (tys : List (ClassId × FieldType)) (res : (Int32 ⊕ Bool) × SG) : Array Value → State → Outcome → State → Prop := va_Qi (fun r σ' => some (Sum.inl r, σ') = some res) (wx E D cl n ad t tys) (ws_A n ad)
abbrev yQl (E : EF) (D : va_G) (cl : List vw_C) (n : Nat) (ad : Nat → Nat) (t : TB) (tys : List (ClassId × FieldType)) (res : (Int64 ⊕ Bool) × SG) : Array Value → State → Outcome → State → Prop := va_Ql (fun r σ' => some (Sum.inl r, σ') = some res) (wx E D cl n ad t tys) (ws_A n ad)
abbrev yX {α : Type} (D : va_G) (cl : List vw_C) (n : Nat) (ad : Nat → Nat) (t : TB) (res : (α ⊕ Bool) × SG) : String → State → State → Prop := vx_X (fun u : Bool × SG => some (Sum.inr u.1, u.2) = some res) (fun E u T => E = exName u.1 ∧ ws_P D cl n ad t u.2 T.heap) (ws_A n ad)
theorem yr_iret {XC : String → State → State → Prop} (hx : p.tables.exec = Jvm.exec) (hb : c.code = cc) (hr : meth.sig.returnType = some .int) (hlocks : meth.locks = false) (hE : eOK E ∧ E (ws_A n ad) s s.heap) (hJ : ws_J n ad) (hK : va_K D cl tys s) (hP : ws_P D cl n ad t σ H) (hS : va_S (ws_A n ad) s.heap H locs) {v : Int32} {res : (Int32 ⊕ Bool) × SG} (h : some (Sum.inl v, σ) = some res) (hdg : decode cc pc = .ok (.ireturn, 1)) :
    W p l e R s m args below meth c H locs cells slots (vx_MQ below (yQi E D cl n ad t tys res) XC args s cells slots (ws_A n ad)) (F0 m pc ls [.int v]) :=
  vx_ret (W.iret (v := v) hx hb hr (fun t ht hW => ⟨⟨v, σ, rfl, h, wx_at hE hJ hP hK hS ht hW⟩, hS.F ht⟩) hS.2.2 hdg)
theorem yr_lret {XC : String → State → State → Prop} (hx : p.tables.exec = Jvm.exec) (hb : c.code = cc) (hr : meth.sig.returnType = some .long) (hlocks : meth.locks = false) (hE : eOK E ∧ E (ws_A n ad) s s.heap) (hJ : ws_J n ad) (hK : va_K D cl tys s) (hP : ws_P D cl n ad t σ H) (hS : va_S (ws_A n ad) s.heap H locs) {v : Int64} {res : (Int64 ⊕ Bool) × SG} (h : some (Sum.inl v, σ) = some res) (hdg : decode cc pc = .ok (.lreturn, 1)) :
    W p l e R s m args below meth c H locs cells slots (vx_MQ below (yQl E D cl n ad t tys res) XC args s cells slots (ws_A n ad)) (F0 m pc ls [.long v]) :=
  vx_ret (W.lret (v := v) hx hb hr (fun t ht hW => ⟨⟨v, σ, rfl, h, wx_at hE hJ hP hK hS ht hW⟩, hS.F ht⟩) hS.2.2 hdg)
end YQ
