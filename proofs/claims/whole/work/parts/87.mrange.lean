/-! ===== the model's reader against the steps ===== -/
def uRd (tc : Nat) (tb : Nat → Int) : ARK := fun u d A aw rp lo hi Λ o => ∃ n, ARd tc tb n u d A aw rp lo hi Λ o
theorem ARs.ex {tc : Nat} {tb : Nat → Int} {d A aw : Nat} {rp : Bool} {lo hi : Int} {Λ : Nat → GL} {pl : Nat} {cd vl : Int} {nx : Nat} {o : OUT} (h : ARs (uRd tc tb) d A aw rp lo hi Λ pl cd vl nx o) : ∃ n, ARs (ARd tc tb n) d A aw rp lo hi Λ pl cd vl nx o := by
  have cst : ∀ {P : Nat → Prop}, (∀ n, P n) → ∃ n, P n := fun h => ⟨0, h 0⟩
  have ite : ∀ {c : Prop} [Decidable c] {P Q : Prop} {P' Q' : Nat → Prop}, (if c then P else Q) → (P → ∃ n, P' n) → (Q → ∃ n, Q' n) → ∃ n, (if c then P' n else Q' n) := by
    intro c _ P Q P' Q' h h1 h2
    by_cases z : c
    · rw [if_pos z] at h
      obtain ⟨n, hn⟩ := h1 h
      exact ⟨n, by rw [if_pos z]; exact hn⟩
    · rw [if_neg z] at h
      obtain ⟨n, hn⟩ := h2 h
      exact ⟨n, by rw [if_neg z]; exact hn⟩
  have at' : ∀ {a b : Int}, ARatom (uRd tc tb) d A lo hi Λ pl nx a b o → ∃ n, ARatom (ARd tc tb n) d A lo hi Λ pl nx a b o := fun h => ite h (fun h => h) (fun h => ⟨0, h⟩)
  exact ite h (fun h => ⟨0, h⟩) (fun h => ite h (fun h => ite h (fun h => ite h (fun h => ⟨0, h⟩) (fun h => ⟨0, h⟩)) (fun h => ite h (fun h => ite h (fun h => h) (fun h => ⟨0, h⟩)) (fun h => ite h (fun h => ite h (fun h => ⟨0, h⟩) (fun h => h)) (fun h => ite h (fun h => ite h (fun h => h) (fun h => ⟨0, h⟩)) (fun h => ite h at' (fun h => ite h at' (fun h => ite h (fun h => ite h (fun h => h) (fun h => ⟨0, h⟩)) (fun h => ite h at' (fun h => ite h (fun h => h) (fun h => ⟨0, h⟩)))))))))) (fun h => ite h (fun h => ⟨0, h⟩) (fun h => ite h (fun h => h) (fun h => ite h (fun h => h) (fun h => ite h (fun h => ite h (fun h => ⟨0, h⟩) (fun h => h)) at')))))
theorem uRd.s {tc : Nat} {tb : Nat → Int} {u d A aw : Nat} {rp : Bool} {lo hi : Int} {Λ : Nat → GL} {pl : Nat} {cd vl : Int} {nx : Nat} {o : OUT} (hT : Tok tc tb u pl cd vl nx) (h : ARs (uRd tc tb) d A aw rp lo hi Λ pl cd vl nx o) : uRd tc tb u d A aw rp lo hi Λ o := by
  obtain ⟨n, h⟩ := h.ex
  exact ⟨n + 1, pl, cd, vl, nx, hT, h⟩
/-- a token that doesn't fit -/
theorem uRd.stop {tc : Nat} {tb : Nat → Int} {u d A : Nat} {rp : Bool} {lo hi : Int} {Λ : Nat → GL} {pl : Nat} {cd vl : Int} {nx : Nat} (hT : Tok tc tb u pl cd vl nx) (h1 : ¬ (cd = 48 ∨ cd = 46 ∨ cd = 114 ∨ cd = 91 ∨ cd = 40)) (h2 : ¬ cd = 124) (h3 : rp = true → ¬ (cd = 42 ∨ cd = 43 ∨ cd = 63)) (h4 : cd = 41 → d = 0) (h5 : cd = 0 → ¬ d = 0) : uRd tc tb u d A 0 rp lo hi Λ (.inl (if cd = -1 then 1 else 2, pl)) := by
  refine uRd.s hT ?_
  unfold ARs
  by_cases z : cd = -1
  · rw [if_pos z, if_pos z]
  · rw [if_neg z, if_neg z, if_pos rfl]
    by_cases z0 : cd = 0
    · rw [if_pos z0, if_neg (h5 z0)]
    · rw [if_neg z0, if_neg (by omega)]
      by_cases z1 : cd = 41
      · rw [if_pos z1, if_pos (h4 z1)]
      · rw [if_neg z1]
        by_cases z2 : cd = 42 ∨ cd = 43 ∨ cd = 63
        · rw [if_pos z2, if_neg (fun y => h3 y z2)]
        · rw [if_neg z2, if_neg (by omega), if_neg (by omega), if_neg (by omega), if_neg (by omega), if_neg h2]
theorem uRd.stopB {tc : Nat} {tb : Nat → Int} {u d A aw : Nat} {rp : Bool} {lo hi : Int} {Λ : Nat → GL} {pl : Nat} {cd vl : Int} {nx : Nat} (hT : Tok tc tb u pl cd vl nx) (h1 : ¬ aw = 0) (h2 : ¬ cd = udue aw) : uRd tc tb u d A aw rp lo hi Λ (.inl (if cd = -1 then 1 else 2, pl)) := by
  refine uRd.s hT ?_
  unfold ARs
  by_cases z : cd = -1
  · rw [if_pos z, if_pos z]
  · rw [if_neg z, if_neg z, if_neg h1, if_pos h2]
def MGd (tc : Nat) (tb : Nat → Int) (κ : Int) (pm : Nat) (S : OUT → Prop) (d ν0 : Nat) (σ0 σs : SG) (R : Bool → Int → (Nat → GL) → LG → Prop) (v : Int32) (σ' : SG) : Prop :=
  ∃ (u' pl : Nat) (cd vl : Int) (nx A' ν' : Nat) (lo hi : Int) (Λ' : Nat → GL) (rp' : Bool) (e : Nat), Tok tc tb u' pl cd vl nx ∧ pm ≤ pl ∧ MG tc tb pl cd vl nx A' d ν' σ0 σ' ∧ A' ≤ 50 ∧ (ν' : Int) ≤ 2 * pl + κ ∧ v.toInt = (e : Nat) ∧ e < ν' ∧ kpt ν0 σs σ' ∧ ν0 ≤ ν' ∧ (∀ o, uRd tc tb u' d A' 0 rp' lo hi Λ' o → S o) ∧ R rp' cd Λ' (uLn σ' e)
def MBd (κ : Int) (S : OUT → Prop) (σ0 σ' : SG) : Prop := ∃ (f : Int) (p ν pl : Nat), MF f p ν σ0 σ' ∧ (ν : Int) ≤ 2 * pl + κ ∧ pl ≤ 160 ∧ S (.inl (f, p))
def RA (Λ : Nat → GL) (d : Nat) (Λ' : Nat → GL) (G : LG) : Prop := (∀ k, k < d → Λ' k = Λ k) ∧ (Λ' d).1 = (Λ d).1 ∧ (Λ' d).2.1 = gCat (Λ d).2.1 (Λ d).2.2 ∧ ∀ sg N i j, (Λ' d).2.2 sg N i j ↔ G sg N i j
theorem uLn.at {σ : SG} {e : Nat} (h : nK σ e = 1 ∨ nK σ e = 2 ∨ nK σ e = 3) : uLn σ e = gAtom (alo (nK σ) (nA σ) e) (ahi (nK σ) (nB σ) e) := by
  rw [uLn.e, if_neg (by omega), if_neg (by omega), if_neg (by omega), if_neg (by omega), if_neg (by omega), if_neg (by omega)]
theorem m_range {tc : Nat} {tb : Nat → Int} {u pl : Nat} {vl : Int} {nx A d ν : Nat} {rp : Bool} {lo hi : Int} {Λ : Nat → GL} {κ : Int} {σ0 σ : SG} (hB : uTB tc tb) (hT : Tok tc tb u pl 91 vl nx) (h : MG tc tb pl 91 vl nx (A + 1) d ν σ0 σ) (hA : A < 50) (hκ : κ ≤ 1) (hν : (ν : Int) ≤ 2 * pl + κ) : uOk (m_X12_range σ) (fun v σ' => MGd tc tb (κ - 1) (pl + 1) (uRd tc tb u d A 0 rp lo hi Λ) d ν σ0 σ (fun rp' _ Λ' G => rp' = true ∧ RA Λ d Λ' G) v σ' ∨ MBd κ (uRd tc tb u d A 0 rp lo hi Λ) σ0 σ') := by
  have b := hB.1
  have tb0 := hT.b
  have hpl : pl < nx := tb0.2.2.2.2 (by omega)
  -- after a fault
  have r103F : ∀ (f : Int) (p : Nat) (s : SG) (l1 l2 : Int32), MF f p ν σ0 s → uRd tc tb u d A 0 rp lo hi Λ (.inl (f, p)) → uOk (m_X12_range_103 s l1 l2) (fun v σ' => MGd tc tb (κ - 1) (pl + 1) (uRd tc tb u d A 0 rp lo hi Λ) d ν σ0 σ (fun rp' _ Λ' G => rp' = true ∧ RA Λ d Λ' G) v σ' ∨ MBd κ (uRd tc tb u d A 0 rp lo hi Λ) σ0 σ') := fun f p s l1 l2 hm hs => by
    unfold m_X12_range_103
    exact ok_b (m_nodeF hm (by omega)) (fun v s' g => ok_r (Or.inr ⟨f, p, ν + 1, nx, g, by omega, by omega, hs⟩))
  have r86F : ∀ (f : Int) (p : Nat) (s : SG) (l1 l2 : Int32), MF f p ν σ0 s → uRd tc tb u d A 0 rp lo hi Λ (.inl (f, p)) → uOk (m_X12_range_86 s l1 l2) (fun v σ' => MGd tc tb (κ - 1) (pl + 1) (uRd tc tb u d A 0 rp lo hi Λ) d ν σ0 σ (fun rp' _ Λ' G => rp' = true ∧ RA Λ d Λ' G) v σ' ∨ MBd κ (uRd tc tb u d A 0 rp lo hi Λ) σ0 σ') := fun f p s l1 l2 hm hs => by
    unfold m_X12_range_86
    refine ok_b m_good (fun v s' g => ?_)
    obtain ⟨rfl, g⟩ := g
    exact ok_ite (fun _ => r103F f p s' l1 l2 hm hs) (fun q => absurd (g.mpr hm.1) q)
  have r64F : ∀ (f : Int) (p : Nat) (s : SG) (l1 : Int32), MF f p ν σ0 s → uRd tc tb u d A 0 rp lo hi Λ (.inl (f, p)) → uOk (m_X12_range_64 s l1) (fun v σ' => MGd tc tb (κ - 1) (pl + 1) (uRd tc tb u d A 0 rp lo hi Λ) d ν σ0 σ (fun rp' _ Λ' G => rp' = true ∧ RA Λ d Λ' G) v σ' ∨ MBd κ (uRd tc tb u d A 0 rp lo hi Λ) σ0 σ') := fun f p s l1 hm hs => by
    unfold m_X12_range_64
    refine ok_l fun v32 _ => ok_b m_good (fun v s' g => ?_)
    obtain ⟨rfl, g⟩ := g
    exact ok_ite (fun _ => r86F f p s' l1 v32 hm hs) (fun q => absurd (g.mpr hm.1) q)
  have r45F : ∀ (f : Int) (p : Nat) (s : SG) (l1 : Int32), MF f p ν σ0 s → uRd tc tb u d A 0 rp lo hi Λ (.inl (f, p)) → uOk (m_X12_range_45 s l1) (fun v σ' => MGd tc tb (κ - 1) (pl + 1) (uRd tc tb u d A 0 rp lo hi Λ) d ν σ0 σ (fun rp' _ Λ' G => rp' = true ∧ RA Λ d Λ' G) v σ' ∨ MBd κ (uRd tc tb u d A 0 rp lo hi Λ) σ0 σ') := fun f p s l1 hm hs => by
    unfold m_X12_range_45
    refine ok_b m_good (fun v s' g => ?_)
    obtain ⟨rfl, g⟩ := g
    exact ok_ite (fun _ => r64F f p s' l1 hm hs) (fun q => absurd (g.mpr hm.1) q)
  have r23F : ∀ (f : Int) (p : Nat) (s : SG), MF f p ν σ0 s → uRd tc tb u d A 0 rp lo hi Λ (.inl (f, p)) → uOk (m_X12_range_23 s) (fun v σ' => MGd tc tb (κ - 1) (pl + 1) (uRd tc tb u d A 0 rp lo hi Λ) d ν σ0 σ (fun rp' _ Λ' G => rp' = true ∧ RA Λ d Λ' G) v σ' ∨ MBd κ (uRd tc tb u d A 0 rp lo hi Λ) σ0 σ') := fun f p s hm hs => by
    unfold m_X12_range_23
    refine ok_l fun v12 _ => ok_b m_good (fun v s' g => ?_)
    obtain ⟨rfl, g⟩ := g
    exact ok_ite (fun _ => r45F f p s' v12 hm hs) (fun q => absurd (g.mpr hm.1) q)
  have k1 : ((1 : Int32)).toInt = 1 := rfl
  have mt1 : ∀ c : Int, mtk c = 1 ↔ c = 48 := fun c => by unfold mtk; split <;> (try split) <;> (try split) <;> omega
  unfold m_X12_range m_X12_range_0
  -- [
  have S1 : ∀ o, uRd tc tb nx d A 1 rp lo hi Λ o → uRd tc tb u d A 0 rp lo hi Λ o := fun o ho => uRd.s hT (by
    unfold ARs
    rw [if_neg (by omega), if_pos rfl, if_neg (by omega), if_neg (by omega), if_neg (by omega), if_neg (by omega), if_neg (by omega), if_neg (by omega), if_pos rfl, if_pos hA]
    exact ho)
  refine ok_b (m_nextG hB hT h) (fun _ s2 g2 => ?_)
  obtain ⟨pl1, cd1, vl1, nx1, T1, M1, K1⟩ := g2
  have t1 := T1.b
  refine ok_b m_good (fun v4 s5 g4 => ?_)
  obtain ⟨rfl, g4⟩ := g4
  have hg1 : s5.1 0 12 = 0 := M1.2.2.2.2.2.2.1
  have h91 : (s5.1 0 9).toInt = mtk cd1 := M1.2.2.1
  refine ok_ite (fun q => absurd hg1 (g4.mp q)) (fun _ => ok_ite (fun c1 => ?_) (fun c1 => ok_b (m_mis M1) (fun _ s10 g10 => r23F _ _ s10 g10 (S1 _ (uRd.stopB T1 (by omega) (fun z => c1 ?_))))))
  rotate_left
  · rw [z_eq, h91, k1, mt1]; exact z
  rw [z_eq, h91, k1, mt1] at c1
  subst c1
  have hv1 : (s5.1 0 11).toInt = vl1 := M1.2.2.2.2.1 rfl
  have bv1 := T1.v rfl
  have S2 : ∀ o, uRd tc tb nx1 d A 2 rp vl1 hi Λ o → uRd tc tb u d A 0 rp lo hi Λ o := fun o ho => S1 o (uRd.s T1 (by
    unfold ARs
    rw [if_neg (by omega), if_neg (by omega), if_neg (fun z => z rfl), if_pos rfl]
    exact ho))
  have n1 : pl1 < nx1 := t1.2.2.2.2 (by omega)
  unfold m_X12_range_23
  refine ok_l fun v12 e12 => ok_b m_good (fun v14 s15 g14 => ?_)
  obtain ⟨rfl, g14⟩ := g14
  have d12 : v12.toInt = vl1 := by rw [e12]; exact hv1
  refine ok_ite (fun q => absurd hg1 (g14.mp q)) (fun _ => ok_b (m_nextG hB T1 M1) (fun _ s19 g19 => ?_))
  obtain ⟨pl2, cd2, vl2, nx2, T2, M2, K2⟩ := g19
  have t2 := T2.b
  refine ok_b (m_takeG (p := 44) hB T2 M2 (by unfold mark; decide)) (fun _ s22 g22 => ?_)
  by_cases c2 : cd2 = 44
  rotate_left
  · exact r45F _ _ s22 _ (g22.2 c2) (S2 _ (uRd.stopB T2 (by omega) c2))
  obtain ⟨pl3, cd3, vl3, nx3, T3, M3, K3⟩ := g22.1 c2
  subst c2
  have t3 := T3.b
  have S3 : ∀ o, uRd tc tb nx2 d A 3 rp vl1 hi Λ o → uRd tc tb u d A 0 rp lo hi Λ o := fun o ho => S2 o (uRd.s T2 (by
    unfold ARs
    rw [if_neg (by omega), if_neg (by omega), if_neg (fun z => z rfl), if_neg (by omega), if_pos rfl]
    exact ho))
  have n2 : pl2 < nx2 := t2.2.2.2.2 (by omega)
  unfold m_X12_range_45
  refine ok_b m_good (fun v24 s25 g24 => ?_)
  obtain ⟨rfl, g24⟩ := g24
  have hg3 : s25.1 0 12 = 0 := M3.2.2.2.2.2.2.1
  have h93 : (s25.1 0 9).toInt = mtk cd3 := M3.2.2.1
  refine ok_ite (fun q => absurd hg3 (g24.mp q)) (fun _ => ok_ite (fun c3 => ?_) (fun c3 => ok_b (m_mis M3) (fun _ s30 g30 => r64F _ _ s30 _ g30 (S3 _ (uRd.stopB T3 (by omega) (fun z => c3 ?_))))))
  rotate_left
  · rw [z_eq, h93, k1, mt1]; exact z
  rw [z_eq, h93, k1, mt1] at c3
  subst c3
  have hv3 : (s25.1 0 11).toInt = vl3 := M3.2.2.2.2.1 rfl
  have n3 : pl3 < nx3 := t3.2.2.2.2 (by omega)
  unfold m_X12_range_64
  refine ok_l fun v32 e32 => ok_b m_good (fun v34 s35 g34 => ?_)
  obtain ⟨rfl, g34⟩ := g34
  have d32 : v32.toInt = vl3 := by rw [e32]; exact hv3
  refine ok_ite (fun q => absurd hg3 (g34.mp q)) (fun _ => ok_ite (fun c4 => ?_) (fun c4 => ok_b (m_faultS M3 (by decide)) (fun _ s40 g40 => r86F _ _ s40 _ _ g40 (S3 _ (uRd.s T3 ?_)))))
  rotate_left
  · rw [z_le, d12, d32] at c4
    unfold ARs
    rw [if_neg (by omega), if_neg (by omega), if_neg (fun z => z rfl), if_neg (by omega), if_neg (by omega), if_pos rfl, if_pos (by omega)]
    rfl
  rw [z_le, d12, d32] at c4
  have S4 : ∀ o, uRd tc tb nx3 d A 4 rp vl1 vl3 Λ o → uRd tc tb u d A 0 rp lo hi Λ o := fun o ho => S3 o (uRd.s T3 (by
    unfold ARs
    rw [if_neg (by omega), if_neg (by omega), if_neg (fun z => z rfl), if_neg (by omega), if_neg (by omega), if_pos rfl, if_neg (by omega)]
    exact ho))
  unfold m_X12_range_86
  refine ok_b m_good (fun v42 s43 g42 => ?_)
  obtain ⟨rfl, g42⟩ := g42
  refine ok_ite (fun q => absurd hg3 (g42.mp q)) (fun _ => ok_b (m_nextG hB T3 M3) (fun _ s47 g47 => ?_))
  obtain ⟨pl4, cd4, vl4, nx4, T4, M4, K4⟩ := g47
  have t4 := T4.b
  refine ok_b (m_takeG (p := 93) hB T4 M4 (by unfold mark; decide)) (fun _ s50 g50 => ?_)
  by_cases c5 : cd4 = 93
  rotate_left
  · exact r103F _ _ s50 _ _ (g50.2 c5) (S4 _ (uRd.stopB T4 (by omega) c5))
  obtain ⟨pl5, cd5, vl5, nx5, T5, M5, K5⟩ := g50.1 c5
  subst c5
  have t5 := T5.b
  have n4 : pl4 < nx4 := t4.2.2.2.2 (by omega)
  have S5 : ∀ o, uRd tc tb nx4 d (A + 1) 0 true vl1 vl3 (upg Λ d ((Λ d).1, gCat (Λ d).2.1 (Λ d).2.2, gAtom vl1 vl3)) o → uRd tc tb u d A 0 rp lo hi Λ o := fun o ho => S4 o (uRd.s T4 (by
    unfold ARs ARatom
    rw [if_neg (by omega), if_neg (by omega), if_neg (fun z => z rfl), if_neg (by omega), if_neg (by omega), if_neg (by omega), if_pos hA]
    exact ho))
  unfold m_X12_range_103
  refine ok_b (m_nodeG M5 (by omega) (by decide) (by decide) (fun _ => by rw [d12]; exact bv1.1) (fun z => by rw [k1] at z; omega) (fun z => by rw [k1] at z; omega)) (fun v52 s53 g53 => ok_r (Or.inl ?_))
  obtain ⟨y1, y2, y3, y4, y5, y6⟩ := g53
  rw [k1] at y4
  refine ⟨nx4, pl5, cd5, vl5, nx5, A + 1, ν + 1, vl1, vl3, _, true, ν, T5, by omega, y2, by omega, by omega, y1, by omega, ((((K1.tr K2 (Nat.le_refl _)).tr K3 (Nat.le_refl _)).tr K4 (Nat.le_refl _)).tr K5 (Nat.le_refl _)).tr y3 (Nat.le_refl _), by omega, S5, rfl, fun k hk => upg_n (by omega), by rw [upg_s], by rw [upg_s], fun sg N i j => ?_⟩
  rw [upg_s, uLn.at (Or.inl y4)]
  unfold alo ahi
  have e6 : nB s53 ν = vl3 := by
    rw [y6]
    exact d32
  rw [if_pos y4, if_pos y4, y5, e6, d12]
