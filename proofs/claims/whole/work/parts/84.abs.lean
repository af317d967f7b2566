/-! ===== the reading of words as steps ===== -/
abbrev GL : Type := LG × LG × LG
abbrev OUT : Type := (Int × Nat) ⊕ (Nat × LG)
def upg (Λ : Nat → GL) (d : Nat) (v : GL) : Nat → GL := fun k => if k = d then v else Λ k
theorem upg_s {Λ : Nat → GL} {d : Nat} {v : GL} : upg Λ d v d = v := if_pos rfl
theorem upg_n {Λ : Nat → GL} {d k : Nat} {v : GL} (h : k ≠ d) : upg Λ d v k = Λ k := if_neg h
abbrev ARK : Type := Nat → Nat → Nat → Nat → Bool → Int → Int → (Nat → GL) → OUT → Prop
def gAll (v : GL) : LG := gOr v.1 (gCat v.2.1 v.2.2)
def ARatom (K : ARK) (d A : Nat) (lo hi : Int) (Λ : Nat → GL) (pl nx : Nat) (a b : Int) (o : OUT) : Prop :=
  if A < 50 then K nx d (A + 1) 0 true lo hi (upg Λ d ((Λ d).1, gCat (Λ d).2.1 (Λ d).2.2, gAtom a b)) o else o = .inl (4, pl)
def udue (aw : Nat) : Int := if aw = 2 then 44 else if aw = 4 then 93 else 48
def ARs (K : ARK) (d A aw : Nat) (rp : Bool) (lo hi : Int) (Λ : Nat → GL) (pl : Nat) (cd vl : Int) (nx : Nat) (o : OUT) : Prop :=
  if cd = -1 then o = .inl (1, pl) else
  if aw = 0 then
    (if cd = 0 then (if d = 0 then o = .inr (A, gAll (Λ 0)) else o = .inl (2, pl))
    else if cd = 40 then (if d < 8 then K nx (d + 1) A 0 false lo hi (upg (upg Λ d ((Λ d).1, gCat (Λ d).2.1 (Λ d).2.2, gEps)) (d + 1) (gNo, gEps, gEps)) o else o = .inl (4, pl))
    else if cd = 41 then (if d = 0 then o = .inl (2, pl) else K nx (d - 1) A 0 true lo hi (upg Λ (d - 1) ((Λ (d - 1)).1, (Λ (d - 1)).2.1, gAll (Λ d))) o)
    else if cd = 42 ∨ cd = 43 ∨ cd = 63 then (if rp = true then K nx d A 0 false lo hi (upg Λ d ((Λ d).1, (Λ d).2.1, gRpt cd (Λ d).2.2)) o else o = .inl (2, pl))
    else if cd = 46 then ARatom K d A lo hi Λ pl nx (-999) 999 o
    else if cd = 48 then ARatom K d A lo hi Λ pl nx vl vl o
    else if cd = 91 then (if A < 50 then K nx d A 1 rp lo hi Λ o else o = .inl (4, pl))
    else if cd = 114 then ARatom K d A lo hi Λ pl nx (-1000) (-1000) o
    else if cd = 124 then K nx d A 0 false lo hi (upg Λ d (gAll (Λ d), gEps, gEps)) o
    else o = .inl (2, pl))
  else if ¬ cd = udue aw then o = .inl (2, pl)
  else if aw = 1 then K nx d A 2 rp vl hi Λ o
  else if aw = 2 then K nx d A 3 rp lo hi Λ o
  else if aw = 3 then (if vl < lo then o = .inl (3, pl) else K nx d A 4 rp lo vl Λ o)
  else ARatom K d A lo hi Λ pl nx lo hi o
def ARd (tc : Nat) (tb : Nat → Int) : Nat → ARK
  | 0 => fun _ _ _ _ _ _ _ _ _ => False
  | n + 1 => fun u d A aw rp lo hi Λ o => ∃ pl cd vl nx, Tok tc tb u pl cd vl nx ∧ ARs (ARd tc tb n) d A aw rp lo hi Λ pl cd vl nx o
/-! what the class holds at such a step -/
def XS (w tc : Nat) (tb : Nat → Int) (u d A aw : Nat) (rp : Bool) (lo hi : Int) (Λ : Nat → GL) (σ : SG) : Prop :=
  ∃ Γ : Nat → LVL, CS w d Γ A σ ∧ flg d σ ∧ (∀ k, k ≤ d → (Γ k).2 = Λ k) ∧ (∀ k, k < d → (Γ k).1.2.2.1 = (Γ k).1.2.2.2) ∧ (Γ 0).1.1 = 0 ∧ (σ.1 166 2).toInt = d ∧ (σ.1 166 3).toInt = u ∧ (σ.1 166 6).toInt = aw ∧ aw ≤ 4 ∧ (rp = true ↔ ¬ σ.1 (167 + d) 3 = 0) ∧ (2 ≤ aw → (σ.1 166 7).toInt = lo) ∧ (4 ≤ aw → (σ.1 166 8).toInt = hi) ∧ (0 < aw → A < 50) ∧ TX tc tb σ
theorem ups_p0 {Γ : Nat → LVL} {d : Nat} {v : LVL} (h : (Γ d).1.1 = v.1.1) : (ups Γ d v 0).1.1 = (Γ 0).1.1 := by
  by_cases e : 0 = d
  · subst e; rw [ups_s]; exact h.symm
  · rw [ups_n e]
theorem TX.W {tc : Nat} {tb : Nat → Int} {w : Nat} {σ σ' : SG} (h : TX tc tb σ) (hw : w < 2) (f : frW w σ σ') : TX tc tb σ' := ⟨by rw [f.1 _ _ (by omega) (by omega) (by omega) (by omega)]; exact h.1, fun j hj => by rw [f.1 _ _ (by omega) (by omega) (by omega) (by omega)]; exact h.2 j hj⟩
theorem fr1.W {w : Nat} {σ σ' : SG} (f : fr1 166 167 σ σ') : frW w σ σ' := ⟨fun k i a _ _ _ => f.1 k i (by omega), fun k i _ _ _ => by rw [f.2], by rw [f.2]⟩
/-- what a token does to the class -/
def XTq (w tc : Nat) (tb : Nat → Int) (d A aw : Nat) (rp : Bool) (lo hi : Int) (Λ : Nat → GL) (pl : Nat) (cd vl : Int) (nx : Nat) (σ : SG) (v : Int32) (σ' : SG) : Prop :=
  frW w σ σ' ∧ (σ'.1 166 0).toInt = pl ∧ (σ'.1 166 4).toInt = cd ∧ ∀ (K : ARK) (o : OUT), ARs K d A aw rp lo hi Λ pl cd vl nx o →
    (o = .inl (v.toInt, pl) ∧ ¬ v = 0) ∨ (v = 0 ∧ ¬ cd = 0 ∧ ∃ (d' A' aw' : Nat) (rp' : Bool) (lo' hi' : Int) (Λ' : Nat → GL), XS w tc tb nx d' A' aw' rp' lo' hi' Λ' σ' ∧ K nx d' A' aw' rp' lo' hi' Λ' o) ∨ (v = 0 ∧ cd = 0 ∧ d = 0 ∧ XS w tc tb nx d A aw rp lo hi Λ σ' ∧ o = .inr (A, gAll (Λ 0)))
theorem x_take {w tc : Nat} {tb : Nat → Int} {u d A aw : Nat} {rp : Bool} {lo hi : Int} {Λ : Nat → GL} {σ0 σ : SG} {pl : Nat} {cd vl : Int} {nx : Nat} (hS : XS w tc tb u d A aw rp lo hi Λ σ0) (hT : XTd σ0 σ pl cd vl nx) : uOk (m_X10_take w σ) (XTq w tc tb d A aw rp lo hi Λ pl cd vl nx σ) := by
  obtain ⟨Γ, c0, g0, hΛ, hpq, hp0, d0, u0, a0, ha4, r0, l0, h0, f0, t0⟩ := hS
  obtain ⟨F1, F2, tpl, tcd, tnx, tvl⟩ := hT
  have hd8 := c0.2.2.2.1
  have hw := c0.1
  have cS : CS w d Γ A σ := c0.cg (fun k i z => F1.1 k i (by omega)) (by rw [F1.2])
  have gS : flg d σ := g0.cg (fun o ho => F1.1 _ _ (by omega))
  have dS : (σ.1 166 2).toInt = d := by rw [F2 _ (by omega) (by omega) (by omega) (by omega)]; exact d0
  have aS : (σ.1 166 6).toInt = aw := by rw [F2 _ (by omega) (by omega) (by omega) (by omega)]; exact a0
  have lS' : 2 ≤ aw → (σ.1 166 7).toInt = lo := by rw [F2 _ (by omega) (by omega) (by omega) (by omega)]; exact l0
  have hS' : 4 ≤ aw → (σ.1 166 8).toInt = hi := by rw [F2 _ (by omega) (by omega) (by omega) (by omega)]; exact h0
  have rS : rp = true ↔ ¬ σ.1 (167 + d) 3 = 0 := by rw [F1.1 _ _ (by omega)]; exact r0
  have tS : TX tc tb σ := t0.W (w := w) hw F1.W
  obtain ⟨p0, p1, p2, q, hΓ⟩ : ∃ p0 p1 p2 q, Γ d = ((p0, p1, p2, q), Λ d) := ⟨(Γ d).1.1, (Γ d).1.2.1, (Γ d).1.2.2.1, (Γ d).1.2.2.2, by rw [← hΛ d (Nat.le_refl _)]⟩
  have hΓ' : Γ d = ((p0, p1, p2, q), ((Λ d).1, (Λ d).2.1, (Λ d).2.2)) := hΓ
  have ei : ∀ {x : Int32} {k : Int32}, x = k ↔ x.toInt = k.toInt := z_eq
  -- an atom, from a state that is σ but for what is awaited
  have hatom : ∀ (s : SG) (a b : Int32), (∀ k i, ¬ (k = 166 ∧ i = 6) → s.1 k i = σ.1 k i) → s.2 = σ.2 → (s.1 166 6).toInt = 0 → uOk (m_X10_takeAtom w s a b) (fun v σ' => frW w σ σ' ∧ (σ'.1 166 0).toInt = pl ∧ (σ'.1 166 4).toInt = cd ∧ ∀ (K : ARK) (o : OUT), ARatom K d A lo hi Λ pl nx a.toInt b.toInt o → (o = .inl (v.toInt, pl) ∧ ¬ v = 0) ∨ (v = 0 ∧ ∃ (d' A' aw' : Nat) (rp' : Bool) (lo' hi' : Int) (Λ' : Nat → GL), XS w tc tb nx d' A' aw' rp' lo' hi' Λ' σ' ∧ K nx d' A' aw' rp' lo' hi' Λ' o)) := fun s a b s1 s2 s3 => by
    have cs : CS w d Γ A s := cS.cg (fun k i z => s1 k i (by omega)) (by rw [s2])
    have gs : flg d s := gS.cg (fun o ho => s1 _ _ (by omega))
    have fs : frW w σ s := ⟨fun k i z1 _ _ _ => s1 k i (by omega), fun k i _ _ _ => by rw [s2], by rw [s2]⟩
    refine (x_takeAtom cs hΓ' gs (by rw [s1 _ _ (by omega)]; exact dS)).mono (fun v σ' g => ?_)
    obtain ⟨g50, glt⟩ := g
    have hA := cs.2.1
    by_cases z : A < 50
    · obtain ⟨e1, e2, e3, e4, e5⟩ := glt z
      have k6 : ∀ i, σ'.1 166 i = s.1 166 i := fun i => e2.1 _ _ (by omega) (by omega) (by omega) (by omega) (by omega)
      have FW := fs.tr (e2.W hd8)
      refine ⟨FW, by rw [k6, s1 _ _ (by omega)]; exact tpl, by rw [k6, s1 _ _ (by omega)]; exact tcd, fun K o h => Or.inr ⟨e1, d, A + 1, 0, true, lo, hi, upg Λ d ((Λ d).1, gCat (Λ d).2.1 (Λ d).2.2, gAtom a.toInt b.toInt), ⟨_, e3, e5, fun k hk => ?_, fun k hk => ?_, by rw [ups_p0 (by rw [hΓ])]; exact hp0, by rw [k6, s1 _ _ (by omega)]; exact dS, by rw [k6, s1 _ _ (by omega)]; exact tnx, by rw [k6]; exact s3, by omega, ⟨fun _ => e4, fun _ => rfl⟩, fun z => by omega, fun z => by omega, fun z => by omega, tS.W hw FW⟩, ?_⟩⟩
      · by_cases e : k = d
        · rw [e, ups_s, upg_s]
        · rw [ups_n e, upg_n e]; exact hΛ k hk
      · rw [ups_n (by omega)]; exact hpq k hk
      · unfold ARatom at h
        rw [if_pos z] at h
        exact h
    · obtain ⟨e1, rfl⟩ := g50 (by omega)
      refine ⟨fs, by rw [s1 _ _ (by omega)]; exact tpl, by rw [s1 _ _ (by omega)]; exact tcd, fun K o h => Or.inl ⟨?_, by rw [e1]; decide⟩⟩
      unfold ARatom at h
      rw [if_neg z] at h
      rw [h, e1]; rfl
  have atomq : ∀ (a b : Int), (∀ (K : ARK) (o : OUT), ARs K d A aw rp lo hi Λ pl cd vl nx o → ARatom K d A lo hi Λ pl nx a b o) → ¬ cd = 0 → ∀ (v : Int32) (σ' : SG), (frW w σ σ' ∧ (σ'.1 166 0).toInt = pl ∧ (σ'.1 166 4).toInt = cd ∧ ∀ (K : ARK) (o : OUT), ARatom K d A lo hi Λ pl nx a b o → (o = .inl (v.toInt, pl) ∧ ¬ v = 0) ∨ (v = 0 ∧ ∃ (d' A' aw' : Nat) (rp' : Bool) (lo' hi' : Int) (Λ' : Nat → GL), XS w tc tb nx d' A' aw' rp' lo' hi' Λ' σ' ∧ K nx d' A' aw' rp' lo' hi' Λ' o)) → XTq w tc tb d A aw rp lo hi Λ pl cd vl nx σ v σ' := fun a b hh hz v σ' g => by
    obtain ⟨y1, y2, y3, y4⟩ := g
    refine ⟨y1, y2, y3, fun K o h => ?_⟩
    rcases y4 K o (hh K o h) with y | y
    · exact Or.inl y
    · exact Or.inr (Or.inl ⟨y.1, hz, y.2⟩)
  -- a fault that leaves the state
  have hflt : ∀ v : Int32, ¬ v = 0 → (∀ (K : ARK) (o : OUT), ARs K d A aw rp lo hi Λ pl cd vl nx o → o = .inl (v.toInt, pl)) → XTq w tc tb d A aw rp lo hi Λ pl cd vl nx σ v σ := fun v hv hh => ⟨frW.rf, tpl, tcd, fun K o h => Or.inl ⟨hh K o h, hv⟩⟩
  -- a repeat
  have hrep : ∀ (k : Int32), (k.toInt = 42 ∨ k.toInt = 43 ∨ k.toInt = 63) → cd = k.toInt → (∀ (K : ARK) (o : OUT), ARs K d A aw rp lo hi Λ pl cd vl nx o → (if rp = true then K nx d A 0 false lo hi (upg Λ d ((Λ d).1, (Λ d).2.1, gRpt cd (Λ d).2.2)) o else o = .inl (2, pl))) → aw = 0 → uOk (bi (m_X10_repeat w σ) (fun v s => some (v, s))) (XTq w tc tb d A aw rp lo hi Λ pl cd vl nx σ) := fun k hk e hz aw0 => by
    refine ok_b (x_repeat cS hΓ' gS dS tcd (by omega)) (fun v s g => ok_r ?_)
    obtain ⟨g1, g2⟩ := g
    by_cases y : σ.1 (167 + d) 3 = 0
    · obtain ⟨rfl, rfl⟩ := g1 y
      refine hflt 2 (by decide) (fun K o h => ?_)
      have h := hz K o h
      rw [if_neg (fun z => (rS.mp z) y)] at h
      exact h
    · obtain ⟨b0, b1, b2, b3, b4⟩ := g2 y
      have k6 : ∀ i, s.1 166 i = σ.1 166 i := fun i => b1.1 _ _ (by omega) (by omega) (by omega) (by omega) (by omega)
      have FW := b1.W hd8
      refine ⟨FW, by rw [k6]; exact tpl, by rw [k6]; exact tcd, fun K o h => Or.inr (Or.inl ⟨b0, by omega, d, A, 0, false, lo, hi, upg Λ d ((Λ d).1, (Λ d).2.1, gRpt cd (Λ d).2.2), ⟨_, b2, b4, fun k hk => ?_, fun k hk => ?_, by rw [ups_p0 (by rw [hΓ])]; exact hp0, by rw [k6]; exact dS, by rw [k6]; exact tnx, by rw [k6, aS, aw0], by omega, ⟨fun z => (by cases z), fun z => absurd b3 z⟩, fun z => by omega, fun z => by omega, fun z => by omega, tS.W hw FW⟩, ?_⟩)⟩
      · by_cases e2 : k = d
        · rw [e2, ups_s, upg_s]
        · rw [ups_n e2, upg_n e2]; exact hΛ k hk
      · rw [ups_n (by omega)]; exact hpq k hk
      · have h := hz K o h
        rw [if_pos (rS.mpr y)] at h
        exact h
  unfold m_X10_take m_X10_take_0
  have kk : ∀ k : Int32, (σ.1 166 4 = k ↔ cd = k.toInt) := fun k => by rw [z_eq, tcd]
  have ka : ∀ k : Int32, (σ.1 166 6 = k ↔ (aw : Int) = k.toInt) := fun k => by rw [z_eq, aS]
  refine ok_ite (fun q1 => ok_ite (fun q2 => ?_) (fun q2 => ?_)) (fun q1 => ok_r (hflt 1 (by decide) (fun K o h => ?_)))
  · -- outside of brackets
    have n1 : ¬ cd = -1 := fun z => q1 ((kk _).mpr z)
    have aw0 : aw = 0 := by have := (ka 0).mp q2; have h9 : ((0 : Int32)).toInt = 0 := rfl; omega
    have hz : ∀ (K : ARK) (o : OUT), ARs K d A aw rp lo hi Λ pl cd vl nx o → _ := fun K o h => by
      unfold ARs at h
      rw [if_neg n1, if_pos aw0] at h
      exact h
    refine ok_ite (fun c1 => ?_) (fun c1 => ok_ite (fun c2 => ?_) (fun c2 => ok_ite (fun c3 => ?_) (fun c3 => ok_ite (fun c4 => ?_) (fun c4 => ok_ite (fun c5 => ?_) (fun c5 => ok_ite (fun c6 => ?_) (fun c6 => ok_ite (fun c7 => ?_) (fun c7 => ok_ite (fun c8 => ?_) (fun c8 => ok_ite (fun c9 => ?_) (fun c9 => ok_ite (fun c10 => ?_) (fun c10 => ok_ite (fun c11 => ?_) (fun c11 => ?_)))))))))))
    · have e : cd = 0 := (kk 0).mp c1
      refine ok_ite (fun y => ok_r ⟨frW.rf, tpl, tcd, fun K o h => Or.inr (Or.inr ⟨rfl, e, ?_, ⟨Γ, cS, gS, hΛ, hpq, hp0, dS, tnx, aS, ha4, rS, lS', hS', f0, tS⟩, ?_⟩)⟩) (fun y => ok_r (hflt 2 (by decide) (fun K o h => ?_)))
      · rw [z_le, dS] at y; have h9 : ((0 : Int32)).toInt = 0 := rfl; omega
      · have hd0 : d = 0 := by rw [z_le, dS] at y; have h9 : ((0 : Int32)).toInt = 0 := rfl; omega
        have h := hz K o h
        rw [if_pos e, if_pos hd0] at h
        exact h
      · have hd0 : ¬ d = 0 := fun hh => y (by rw [z_le, dS, hh]; decide)
        have h := hz K o h
        rw [if_pos e, if_neg hd0] at h
        exact h
    all_goals have n0 : ¬ cd = 0 := fun z => c1 ((kk 0).mpr z)
    · have e : cd = 40 := (kk 40).mp c2
      refine ok_b (x_openGroup cS hΓ' gS dS) (fun v6 s7 g7 => ok_r ?_)
      obtain ⟨g8, glt⟩ := g7
      by_cases y : d < 8
      · obtain ⟨b1, b2, b3, b4, b5, b6, b7⟩ := glt y
        refine ⟨b2, by rw [b5 _ (by omega)]; exact tpl, by rw [b5 _ (by omega)]; exact tcd, fun K o h => Or.inr (Or.inl ⟨b1, n0, d + 1, A, 0, false, lo, hi, upg (upg Λ d ((Λ d).1, gCat (Λ d).2.1 (Λ d).2.2, gEps)) (d + 1) (gNo, gEps, gEps), ⟨_, b3, b7, fun k hk => ?_, fun k hk => ?_, by rw [ups_n (by omega), ups_p0 (by rw [hΓ])]; exact hp0, b4, by rw [b5 _ (by omega)]; exact tnx, by rw [b5 _ (by omega), aS, aw0], by omega, ⟨fun z => (by cases z), fun z => absurd b6 z⟩, fun z => by omega, fun z => by omega, fun z => by omega, tS.W hw b2⟩, ?_⟩)⟩
        · by_cases e1 : k = d + 1
          · rw [e1, ups_s, upg_s]
          · rw [ups_n e1, upg_n e1]
            by_cases e2 : k = d
            · rw [e2, ups_s, upg_s]
            · rw [ups_n e2, upg_n e2]; exact hΛ k (by omega)
        · rw [ups_n (by omega)]
          by_cases e2 : k = d
          · rw [e2, ups_s]
          · rw [ups_n e2]; exact hpq k (by omega)
        · have h := hz K o h
          rw [if_neg n0, if_pos e, if_pos y] at h
          exact h
      · obtain ⟨b1, rfl⟩ := g8 (by omega)
        rw [b1]
        refine hflt 4 (by decide) (fun K o h => ?_)
        have h := hz K o h
        rw [if_neg n0, if_pos e, if_neg y] at h
        exact h
    · have e : cd = 41 := (kk 41).mp c3
      by_cases y : d = 0
      · unfold m_X10_closeGroup m_X10_closeGroup_0
        rw [if_neg (fun z => z (by rw [z_eq, dS, y]; rfl))]
        refine ok_b (Q := fun v s => v = 2 ∧ s = σ) (ok_r ⟨rfl, rfl⟩) (fun v10 s11 g10 => ok_r ?_)
        rw [g10.1, g10.2]
        refine hflt 2 (by decide) (fun K o h => ?_)
        have h := hz K o h
        rw [if_neg n0, if_neg (by omega), if_pos e, if_pos y] at h
        exact h
      · obtain ⟨d', rfl⟩ : ∃ d', d = d' + 1 := ⟨d - 1, by omega⟩
        obtain ⟨q0, q1', q2', q3, hΔ⟩ : ∃ p0 p1 p2 q, Γ d' = ((p0, p1, p2, q), ((Λ d').1, (Λ d').2.1, (Λ d').2.2)) := ⟨(Γ d').1.1, (Γ d').1.2.1, (Γ d').1.2.2.1, (Γ d').1.2.2.2, by rw [← hΛ d' (by omega)]⟩
        have hp : q2' = q3 := by have := hpq d' (by omega); rw [hΔ] at this; exact this
        refine ok_b (x_closeGroup cS hΓ' hΔ hp gS dS) (fun v10 s11 g11 => ok_r ?_)
        obtain ⟨b1, b2, b3, b4, b5, b6, b7⟩ := g11
        refine ⟨b2, by rw [b5 _ (by omega)]; exact tpl, by rw [b5 _ (by omega)]; exact tcd, fun K o h => Or.inr (Or.inl ⟨b1, n0, d', A, 0, true, lo, hi, upg Λ d' ((Λ d').1, (Λ d').2.1, gAll (Λ (d' + 1))), ⟨_, b3, b7, fun k hk => ?_, fun k hk => ?_, by rw [ups_p0 (by rw [hΔ])]; exact hp0, b4, by rw [b5 _ (by omega)]; exact tnx, by rw [b5 _ (by omega), aS, aw0], by omega, ⟨fun _ => b6, fun _ => rfl⟩, fun z => by omega, fun z => by omega, fun z => by omega, tS.W hw b2⟩, ?_⟩)⟩
        · by_cases e2 : k = d'
          · rw [e2, ups_s, upg_s]; rfl
          · rw [ups_n e2, upg_n e2]; exact hΛ k (by omega)
        · rw [ups_n (by omega)]; exact hpq k (by omega)
        · have h := hz K o h
          rw [if_neg n0, if_neg (by omega), if_pos e, if_neg y] at h
          exact h
    all_goals have n1' : ¬ cd = 40 := fun z => c2 ((kk 40).mpr z)
    all_goals have n2 : ¬ cd = 41 := fun z => c3 ((kk 41).mpr z)
    · exact hrep 42 (by decide) ((kk 42).mp c4) (fun K o h => by
        have h := hz K o h
        rw [if_neg n0, if_neg n1', if_neg n2, if_pos (Or.inl (show cd = 42 from (kk 42).mp c4))] at h
        exact h) aw0
    · exact hrep 43 (by decide) ((kk 43).mp c5) (fun K o h => by
        have h := hz K o h
        rw [if_neg n0, if_neg n1', if_neg n2, if_pos (Or.inr (Or.inl (show cd = 43 from (kk 43).mp c5)))] at h
        exact h) aw0
    · have e : cd = 46 := (kk 46).mp c6
      refine ok_b (hatom σ (-999) 999 (fun _ _ _ => rfl) rfl (by rw [aS, aw0]; rfl)) (fun v s g => ok_r (atomq _ _ (fun K o h => ?_) n0 v s g))
      have h := hz K o h
      rw [if_neg n0, if_neg n1', if_neg n2, if_neg (by omega), if_pos e] at h
      exact h
    · have e : cd = 48 := (kk 48).mp c7
      refine ok_b (hatom σ _ _ (fun _ _ _ => rfl) rfl (by rw [aS, aw0]; rfl)) (fun v s g => ok_r (atomq _ _ (fun K o h => ?_) n0 v s g))
      have h := hz K o h
      rw [if_neg n0, if_neg n1', if_neg n2, if_neg (by omega), if_neg (by omega), if_pos e] at h
      rw [tvl e]
      exact h
    · exact hrep 63 (by decide) ((kk 63).mp c8) (fun K o h => by
        have h := hz K o h
        rw [if_neg n0, if_neg n1', if_neg n2, if_pos (Or.inr (Or.inr (show cd = 63 from (kk 63).mp c8)))] at h
        exact h) aw0
    · have e : cd = 91 := (kk 91).mp c9
      have hz2 : ∀ (K : ARK) (o : OUT), ARs K d A aw rp lo hi Λ pl cd vl nx o → (if A < 50 then K nx d A 1 rp lo hi Λ o else o = .inl (4, pl)) := fun K o h => by
        have h := hz K o h
        rw [if_neg n0, if_neg n1', if_neg n2, if_neg (by omega), if_neg (by omega), if_neg (by omega), if_pos e] at h
        exact h
      unfold m_X10_openBrackets m_X10_openBrackets_0
      refine ok_b (Q := fun v s => XTq w tc tb d A aw rp lo hi Λ pl cd vl nx σ v s) (ok_b (x_isFull cS) (fun v1 s2 g2 => ?_)) (fun v34 s35 g34 => ok_r g34)
      obtain ⟨rfl, g2⟩ := g2
      refine ok_ite (fun y => ok_l fun s5 e5 => ok_r ?_) (fun y => ok_r (hflt 4 (by decide) (fun K o h => ?_)))
      · have hA := g2.mp y
        have i5 : ∀ k i, ¬ (k = 166 ∧ i = 6) → s5.1 k i = s2.1 k i := fun k i z => by rw [e5, g_sI, if_neg z]
        have j5 : s5.2 = s2.2 := by rw [e5]; rfl
        have fs : frW w s2 s5 := ⟨fun k i z1 _ _ _ => i5 k i (by omega), fun k i _ _ _ => by rw [j5], by rw [j5]⟩
        refine ⟨fs, by rw [i5 _ _ (by omega)]; exact tpl, by rw [i5 _ _ (by omega)]; exact tcd, fun K o h => Or.inr (Or.inl ⟨rfl, n0, d, A, 1, rp, lo, hi, Λ, ⟨Γ, cS.cg (fun k i z => i5 k i (by omega)) (by rw [j5]), gS.cg (fun o ho => i5 _ _ (by omega)), hΛ, hpq, hp0, by rw [i5 _ _ (by omega)]; exact dS, by rw [i5 _ _ (by omega)]; exact tnx, by rw [e5, g_sI_s]; rfl, by omega, by rw [i5 _ _ (by omega)]; exact rS, fun z => by omega, fun z => by omega, fun z => hA, tS.W hw fs⟩, ?_⟩)⟩
        have h := hz2 K o h
        rw [if_pos hA] at h
        exact h
      · have h := hz2 K o h
        rw [if_neg (fun z => y (g2.mpr z))] at h
        exact h
    · have e : cd = 114 := (kk 114).mp c10
      refine ok_b (hatom σ (-1000) (-1000) (fun _ _ _ => rfl) rfl (by rw [aS, aw0]; rfl)) (fun v s g => ok_r (atomq _ _ (fun K o h => ?_) n0 v s g))
      have h := hz K o h
      rw [if_neg n0, if_neg n1', if_neg n2, if_neg (by omega), if_neg (by omega), if_neg (by omega), if_neg (by omega), if_pos e] at h
      exact h
    · have e : cd = 124 := (kk 124).mp c11
      rw [z_nv dS]
      refine ok_i (by omega) (ok_b (x_closeSeq cS hΓ' gS) (fun _ s45 g45 => ok_r ?_))
      obtain ⟨b1, b2, b3, b4⟩ := g45
      have k6 : ∀ i, s45.1 166 i = σ.1 166 i := fun i => b1.1 _ _ (by omega) (by omega) (by omega) (by omega) (by omega)
      have FW := b1.W hd8
      refine ⟨FW, by rw [k6]; exact tpl, by rw [k6]; exact tcd, fun K o h => Or.inr (Or.inl ⟨rfl, n0, d, A, 0, false, lo, hi, upg Λ d (gAll (Λ d), gEps, gEps), ⟨_, b2, b4, fun k hk => ?_, fun k hk => ?_, by rw [ups_p0 (by rw [hΓ])]; exact hp0, by rw [k6]; exact dS, by rw [k6]; exact tnx, by rw [k6, aS, aw0], by omega, ⟨fun z => (by cases z), fun z => absurd b3 z⟩, fun z => by omega, fun z => by omega, fun z => by omega, tS.W hw FW⟩, ?_⟩)⟩
      · by_cases e2 : k = d
        · rw [e2, ups_s, upg_s]; rfl
        · rw [ups_n e2, upg_n e2]; exact hΛ k hk
      · rw [ups_n (by omega)]; exact hpq k hk
      · have h := hz K o h
        rw [if_neg n0, if_neg n1', if_neg n2, if_neg (by omega), if_neg (by omega), if_neg (by omega), if_neg (by omega), if_neg (by omega), if_pos e] at h
        exact h
    · refine ok_r (hflt 2 (by decide) (fun K o h => ?_))
      have h := hz K o h
      have m4 : ¬ cd = 42 := fun z => c4 ((kk 42).mpr z)
      have m5 : ¬ cd = 43 := fun z => c5 ((kk 43).mpr z)
      have m6 : ¬ cd = 46 := fun z => c6 ((kk 46).mpr z)
      have m7 : ¬ cd = 48 := fun z => c7 ((kk 48).mpr z)
      have m8 : ¬ cd = 63 := fun z => c8 ((kk 63).mpr z)
      have m9 : ¬ cd = 91 := fun z => c9 ((kk 91).mpr z)
      have m10 : ¬ cd = 114 := fun z => c10 ((kk 114).mpr z)
      have m11 : ¬ cd = 124 := fun z => c11 ((kk 124).mpr z)
      rw [if_neg n0, if_neg n1', if_neg n2, if_neg (by omega), if_neg m6, if_neg m7, if_neg m9, if_neg m10, if_neg m11] at h
      exact h
  · -- within brackets
    have n1 : ¬ cd = -1 := fun z => q1 ((kk _).mpr z)
    have aw0 : ¬ aw = 0 := fun z => q2 ((ka 0).mpr (by rw [z]; rfl))
    have hA := f0 (by omega)
    have hz : ∀ (K : ARK) (o : OUT), ARs K d A aw rp lo hi Λ pl cd vl nx o → (if ¬ cd = udue aw then o = .inl (2, pl) else if aw = 1 then K nx d A 2 rp vl hi Λ o else if aw = 2 then K nx d A 3 rp lo hi Λ o else if aw = 3 then (if vl < lo then o = .inl (3, pl) else K nx d A 4 rp lo vl Λ o) else ARatom K d A lo hi Λ pl nx lo hi o) := fun K o h => by
      unfold ARs at h
      rw [if_neg n1, if_neg aw0] at h
      exact h
    have due : uOk (m_X10_tokenDue σ) (fun v s => s = σ ∧ v.toInt = udue aw) := by
      unfold m_X10_tokenDue m_X10_tokenDue_0 udue
      refine ok_ite (fun y => ok_r ⟨rfl, ?_⟩) (fun y => ok_ite (fun y2 => ok_r ⟨rfl, ?_⟩) (fun y2 => ok_r ⟨rfl, ?_⟩))
      · have : (aw : Int) = 2 := (ka 2).mp y
        rw [if_pos (by omega)]; rfl
      · have : (aw : Int) = 4 := (ka 4).mp y2
        rw [if_neg (by omega), if_pos (by omega)]; rfl
      · have h2 : ¬ aw = 2 := fun z => y ((ka 2).mpr (by rw [z]; rfl))
        have h4 : ¬ aw = 4 := fun z => y2 ((ka 4).mpr (by rw [z]; rfl))
        rw [if_neg h2, if_neg h4]; rfl
    -- the next thing within brackets
    have go : ∀ (s : SG) (aw' : Nat) (lo' hi' : Int), (∀ k i, ¬ (k = 166 ∧ (i = 6 ∨ i = 7 ∨ i = 8)) → s.1 k i = σ.1 k i) → s.2 = σ.2 → (s.1 166 6).toInt = aw' → 2 ≤ aw' → aw' ≤ 4 → (s.1 166 7).toInt = lo' → (4 ≤ aw' → (s.1 166 8).toInt = hi') → ¬ cd = 0 → (∀ (K : ARK) (o : OUT), ARs K d A aw rp lo hi Λ pl cd vl nx o → K nx d A aw' rp lo' hi' Λ o) → XTq w tc tb d A aw rp lo hi Λ pl cd vl nx σ 0 s := fun s aw' lo' hi' s1 s2 s6 y1 y2 s7 s8 n0 hh => by
      have fs : frW w σ s := ⟨fun k i z1 _ _ _ => s1 k i (by omega), fun k i _ _ _ => by rw [s2], by rw [s2]⟩
      exact ⟨fs, by rw [s1 _ _ (by omega)]; exact tpl, by rw [s1 _ _ (by omega)]; exact tcd, fun K o h => Or.inr (Or.inl ⟨rfl, n0, d, A, aw', rp, lo', hi', Λ, ⟨Γ, cS.cg (fun k i z => s1 k i (by omega)) (by rw [s2]), gS.cg (fun o ho => s1 _ _ (by omega)), hΛ, hpq, hp0, by rw [s1 _ _ (by omega)]; exact dS, by rw [s1 _ _ (by omega)]; exact tnx, s6, y2, by rw [s1 _ _ (by omega)]; exact rS, fun _ => s7, s8, fun z => hA, tS.W hw fs⟩, hh K o h⟩)⟩
    refine ok_b (Q := fun v s => XTq w tc tb d A aw rp lo hi Λ pl cd vl nx σ v s) ?_ (fun v47 s48 g47 => ok_r g47)
    unfold m_X10_takeWithinBrackets m_X10_takeWithinBrackets_0
    refine ok_b due (fun v1 s2 g1 => ?_)
    obtain ⟨rfl, g1⟩ := g1
    have ed : s2.1 166 4 = v1 ↔ cd = udue aw := by rw [z_eq, tcd, g1]
    refine ok_ite (fun y => ?_) (fun y => ok_r (hflt 2 (by decide) (fun K o h => ?_)))
    · have y := ed.mp y
      have n0 : ¬ cd = 0 := fun z => by unfold udue at y; split at y <;> (try split at y) <;> omega
      have hz : ∀ (K : ARK) (o : OUT), ARs K d A aw rp lo hi Λ pl cd vl nx o → (if aw = 1 then K nx d A 2 rp vl hi Λ o else if aw = 2 then K nx d A 3 rp lo hi Λ o else if aw = 3 then (if vl < lo then o = .inl (3, pl) else K nx d A 4 rp lo vl Λ o) else ARatom K d A lo hi Λ pl nx lo hi o) := fun K o h => by
        have h := hz K o h
        rw [if_neg (fun z => z y)] at h
        exact h
      refine ok_ite (fun b1 => ok_l fun s6 e6 => ok_l fun s8 e8 => ok_r ?_) (fun b1 => ok_ite (fun b2 => ok_l fun s11 e11 => ok_r ?_) (fun b2 => ok_ite (fun b3 => ok_l fun s14 e14 => ok_l fun s16 e16 => ?_) (fun b3 => ok_l fun s19 e19 => ?_)))
      · have e : aw = 1 := by have : (aw : Int) = 1 := (ka 1).mp b1; omega
        have h48 : cd = 48 := by rw [y, e]; rfl
        refine go s8 2 vl hi (fun k i z => by rw [e8, g_sI, if_neg (by omega), e6, g_sI, if_neg (by omega)]) (by rw [e8, e6]; rfl) (by rw [e8, g_sI_s]; rfl) (by omega) (by omega) ?_ (fun z => by omega) n0 (fun K o h => ?_)
        · rw [e8, g_sI, if_neg (by omega), e6, g_sI_s]; exact tvl h48
        · have h := hz K o h
          rw [if_pos e] at h
          exact h
      · have e : aw = 2 := by have : (aw : Int) = 2 := (ka 2).mp b2; omega
        refine go s11 3 lo hi (fun k i z => by rw [e11, g_sI, if_neg (by omega)]) (by rw [e11]; rfl) (by rw [e11, g_sI_s]; rfl) (by omega) (by omega) ?_ (fun z => by omega) n0 (fun K o h => ?_)
        · rw [e11, g_sI, if_neg (by omega)]; exact lS' (by omega)
        · have h := hz K o h
          rw [if_neg (by omega), if_pos e] at h
          exact h
      · have e : aw = 3 := by have : (aw : Int) = 3 := (ka 3).mp b3; omega
        have h48 : cd = 48 := by rw [y, e]; rfl
        have i7 : (s16.1 166 7).toInt = lo := by rw [e16, g_sI, if_neg (by omega), e14, g_sI, if_neg (by omega)]; exact lS' (by omega)
        have i8 : (s16.1 166 8).toInt = vl := by rw [e16, g_sI, if_neg (by omega), e14, g_sI_s]; exact tvl h48
        have s1 : ∀ k i, ¬ (k = 166 ∧ (i = 6 ∨ i = 7 ∨ i = 8)) → s16.1 k i = s2.1 k i := fun k i z => by rw [e16, g_sI, if_neg (by omega), e14, g_sI, if_neg (by omega)]
        have s2' : s16.2 = s2.2 := by rw [e16, e14]; rfl
        refine ok_ite (fun y2 => ok_r (go s16 4 lo vl s1 s2' (by rw [e16, g_sI_s]; rfl) (by omega) (by omega) i7 (fun _ => i8) n0 (fun K o h => ?_))) (fun y2 => ok_r ⟨⟨fun k i z1 _ _ _ => s1 k i (by omega), fun k i _ _ _ => by rw [s2'], by rw [s2']⟩, by rw [s1 _ _ (by omega)]; exact tpl, by rw [s1 _ _ (by omega)]; exact tcd, fun K o h => Or.inl ⟨?_, by decide⟩⟩)
        · have h := hz K o h
          rw [z_le, i7, i8] at y2
          rw [if_neg (by omega), if_neg (by omega), if_pos e, if_neg (by omega)] at h
          exact h
        · have h := hz K o h
          rw [z_le, i7, i8] at y2
          rw [if_neg (by omega), if_neg (by omega), if_pos e, if_pos (by omega)] at h
          exact h
      · have e1 : ¬ aw = 1 := fun z => b1 ((ka 1).mpr (by rw [z]; rfl))
        have e2 : ¬ aw = 2 := fun z => b2 ((ka 2).mpr (by rw [z]; rfl))
        have e3 : ¬ aw = 3 := fun z => b3 ((ka 3).mpr (by rw [z]; rfl))
        have i7 : (s19.1 166 7).toInt = lo := by rw [e19, g_sI, if_neg (by omega)]; exact lS' (by omega)
        have i8 : (s19.1 166 8).toInt = hi := by rw [e19, g_sI, if_neg (by omega)]; exact hS' (by omega)
        refine ok_b (hatom s19 _ _ (fun k i z => by rw [e19, g_sI, if_neg z]) (by rw [e19]; rfl) (by rw [e19, g_sI_s]; rfl)) (fun v s g => ok_r (atomq _ _ (fun K o h => ?_) n0 v s g))
        have h := hz K o h
        rw [if_neg e1, if_neg e2, if_neg e3] at h
        rw [i7, i8]
        exact h
    · have h := hz K o h
      rw [if_pos (fun z => y (ed.mpr z))] at h
      exact h
  · have e : cd = -1 := (kk (-1)).mp (Classical.not_not.mp q1)
    unfold ARs at h
    rw [if_pos e] at h
    exact h
