/-! ===== atoms and groups of the model's reader ===== -/
def unr (cd : Int) : Prop := ¬ (cd = 42 ∨ cd = 43 ∨ cd = 63)
def uni (cd : Int) : Prop := ¬ (cd = 48 ∨ cd = 46 ∨ cd = 114 ∨ cd = 91 ∨ cd = 40)
def RALT (Λ : Nat → GL) (d : Nat) (rp' : Bool) (cd' : Int) (Λ' : Nat → GL) (G : LG) : Prop := (∀ k, k < d → Λ' k = Λ k) ∧ (∀ sg N i j, gAll (Λ' d) sg N i j ↔ G sg N i j) ∧ (rp' = true → unr cd') ∧ uni cd' ∧ ¬ cd' = 124
def uALT (tc : Nat) (tb : Nat → Int) (σ0 : SG) (f : SG → Option (Int32 × SG)) (d : Nat) : Prop := ∀ (u pl : Nat) (cd vl : Int) (nx A ν : Nat) (lo hi : Int) (Λ : Nat → GL) (κ : Int) (σ : SG), Tok tc tb u pl cd vl nx → MG tc tb pl cd vl nx A d ν σ0 σ → A ≤ 50 → κ ≤ 0 → (ν : Int) ≤ 2 * pl + κ → Λ d = (gNo, gEps, gEps) → uOk (f σ) (fun v σ' => MGd tc tb (κ + 1) pl (uRd tc tb u d A 0 false lo hi Λ) d ν σ0 σ (RALT Λ d) v σ' ∨ MBd (κ + 2) (uRd tc tb u d A 0 false lo hi Λ) σ0 σ')
def uATM (tc : Nat) (tb : Nat → Int) (σ0 : SG) (f : SG → Option (Int32 × SG)) (d : Nat) (R : (Nat → GL) → Bool → Int → (Nat → GL) → LG → Prop) : Prop := ∀ (u pl : Nat) (cd vl : Int) (nx A ν : Nat) (rp : Bool) (lo hi : Int) (Λ : Nat → GL) (κ : Int) (σ : SG), Tok tc tb u pl cd vl nx → MG tc tb pl cd vl nx A d ν σ0 σ → A ≤ 50 → ¬ uni cd → κ ≤ 1 → (ν : Int) ≤ 2 * pl + κ → uOk (f σ) (fun v σ' => MGd tc tb (κ - 1) (pl + 1) (uRd tc tb u d A 0 rp lo hi Λ) d ν σ0 σ (R Λ) v σ' ∨ MBd κ (uRd tc tb u d A 0 rp lo hi Λ) σ0 σ')
theorem MG.a {tc : Nat} {tb : Nat → Int} {pl : Nat} {cd vl : Int} {nx A A' op ν : Nat} {σ0 σ σ' : SG} {x : Int32} (h : MG tc tb pl cd vl nx A op ν σ0 σ) (e : σ' = sI σ 0 19 x) (hx : x.toInt = A') : MG tc tb pl cd vl nx A' op ν σ0 σ' ∧ kpt ν σ σ' := by
  obtain ⟨b1, b2, b3, b4, b5, b6, b7, b8, b9, b10, b11, b12⟩ := h
  have g6 : ∀ k i, ¬ (k = 0 ∧ i = 19) → σ'.1 k i = σ.1 k i := fun k i z => by rw [e, g_sI, if_neg z]
  have kp : kpt ν σ σ' := fun e he => ⟨g6 _ _ (by omega), g6 _ _ (by omega), g6 _ _ (by omega)⟩
  exact ⟨⟨⟨by rw [g6 _ _ (by omega)]; exact b1.1, fun j hj => by rw [g6 _ _ (by omega)]; exact b1.2 j hj⟩, by rw [g6 _ _ (by omega)]; exact b2, by rw [g6 _ _ (by omega)]; exact b3, by rw [g6 _ _ (by omega)]; exact b4, by rw [g6 _ _ (by omega)]; exact b5, by rw [g6 _ _ (by omega)]; exact b6, by rw [g6 _ _ (by omega)]; exact b7, by rw [e, g_sI_s]; exact hx, by rw [g6 _ _ (by omega)]; exact b9, by rw [g6 _ _ (by omega)]; exact b10, b11.kp kp, frM7 b12 (fun k i z => g6 k i (by omega)) (by rw [e]; rfl)⟩, kp⟩
theorem MG.o {tc : Nat} {tb : Nat → Int} {pl : Nat} {cd vl : Int} {nx A op op' ν : Nat} {σ0 σ σ' : SG} {x : Int32} (h : MG tc tb pl cd vl nx A op ν σ0 σ) (e : σ' = sI σ 0 20 x) (hx : x.toInt = op') : MG tc tb pl cd vl nx A op' ν σ0 σ' ∧ kpt ν σ σ' := by
  obtain ⟨b1, b2, b3, b4, b5, b6, b7, b8, b9, b10, b11, b12⟩ := h
  have g6 : ∀ k i, ¬ (k = 0 ∧ i = 20) → σ'.1 k i = σ.1 k i := fun k i z => by rw [e, g_sI, if_neg z]
  have kp : kpt ν σ σ' := fun e he => ⟨g6 _ _ (by omega), g6 _ _ (by omega), g6 _ _ (by omega)⟩
  exact ⟨⟨⟨by rw [g6 _ _ (by omega)]; exact b1.1, fun j hj => by rw [g6 _ _ (by omega)]; exact b1.2 j hj⟩, by rw [g6 _ _ (by omega)]; exact b2, by rw [g6 _ _ (by omega)]; exact b3, by rw [g6 _ _ (by omega)]; exact b4, by rw [g6 _ _ (by omega)]; exact b5, by rw [g6 _ _ (by omega)]; exact b6, by rw [g6 _ _ (by omega)]; exact b7, by rw [g6 _ _ (by omega)]; exact b8, by rw [e, g_sI_s]; exact hx, by rw [g6 _ _ (by omega)]; exact b10, b11.kp kp, frM7 b12 (fun k i z => g6 k i (by omega)) (by rw [e]; rfl)⟩, kp⟩
theorem m_atom {tc : Nat} {tb : Nat → Int} {σ0 : SG} {f : SG → Option (Int32 × SG)} {d : Nat} (hB : uTB tc tb) (hd : d ≤ 8) (hf : d < 8 → uALT tc tb σ0 f (d + 1)) : uATM tc tb σ0 (m_X12_atom f) d (fun Λ rp' _ Λ' G => rp' = true ∧ RA Λ d Λ' G) := by
  intro u pl cd vl nx A ν rp lo hi Λ κ σ hT h hA hi' hκ hν
  have b := hB.1
  have tb0 := hT.b
  have hst : cd = 48 ∨ cd = 46 ∨ cd = 114 ∨ cd = 91 ∨ cd = 40 := Classical.not_not.mp hi'
  have hpl : pl < nx := tb0.2.2.2.2 (by omega)
  have h19 : (σ.1 0 19).toInt = A := h.2.2.2.2.2.2.2.1
  have h20 : (σ.1 0 20).toInt = d := h.2.2.2.2.2.2.2.2.1
  have k50 : ((50 : Int32)).toInt = 50 := rfl
  have k8 : ((8 : Int32)).toInt = 8 := rfl
  have k1 : ((1 : Int32)).toInt = 1 := rfl
  have k0 : ((0 : Int32)).toInt = 0 := rfl
  have mt1 : ∀ c : Int, mtk c = 1 ↔ c = 48 := fun c => by unfold mtk; split <;> (try split) <;> (try split) <;> omega
  unfold m_X12_atom m_X12_atom_0
  refine ok_b (m_is (p := 40) hT h (by unfold mark; decide)) (fun v1 s2 g1 => ?_)
  obtain ⟨rfl, g1⟩ := g1
  have g1 : v1 = 0 ↔ ¬ cd = 40 := g1
  -- an atom's step
  have Satom : ∀ a b : Int, ((cd = 46 ∧ a = -999 ∧ b = 999) ∨ (cd = 48 ∧ a = vl ∧ b = vl) ∨ (cd = 114 ∧ a = -1000 ∧ b = -1000)) → ∀ o, ARatom (uRd tc tb) d A lo hi Λ pl nx a b o → uRd tc tb u d A 0 rp lo hi Λ o := fun a b hab o ho => uRd.s hT (by
    unfold ARs
    rcases hab with ⟨e, rfl, rfl⟩ | ⟨e, rfl, rfl⟩ | ⟨e, rfl, rfl⟩
    · rw [if_neg (by omega), if_pos rfl, if_neg (by omega), if_neg (by omega), if_neg (by omega), if_neg (by omega), if_pos e]; exact ho
    · rw [if_neg (by omega), if_pos rfl, if_neg (by omega), if_neg (by omega), if_neg (by omega), if_neg (by omega), if_neg (by omega), if_pos e]; exact ho
    · rw [if_neg (by omega), if_pos rfl, if_neg (by omega), if_neg (by omega), if_neg (by omega), if_neg (by omega), if_neg (by omega), if_neg (by omega), if_neg (by omega), if_pos e]; exact ho)
  refine ok_ite (fun q1 => ?_) (fun q1 => ?_)
  · have n40 := g1.mp q1
    refine ok_ite (fun q2 => ok_l fun s6 e6 => ?_) (fun q2 => ok_b (m_faultS h (by decide)) (fun _ s29 g29 => ok_r (Or.inr ⟨4, pl, ν, pl, g29, hν, by omega, ?_⟩)))
    · have hlt : A < 50 := by
        have : ¬ (A : Int) = 50 := fun z => q2 (by rw [z_eq, h19, k50]; exact z)
        omega
      obtain ⟨M6, K6⟩ := h.a e6 (A' := A + 1) (by rw [z_add1 (by omega), h19]; rfl)
      have h9 : (s6.1 0 9).toInt = mtk cd := M6.2.2.1
      have Sat : ∀ a b : Int, ((cd = 46 ∧ a = -999 ∧ b = 999) ∨ (cd = 48 ∧ a = vl ∧ b = vl) ∨ (cd = 114 ∧ a = -1000 ∧ b = -1000)) → ∀ o, uRd tc tb nx d (A + 1) 0 true lo hi (upg Λ d ((Λ d).1, gCat (Λ d).2.1 (Λ d).2.2, gAtom a b)) o → uRd tc tb u d A 0 rp lo hi Λ o := fun a b hab o ho => Satom a b hab o (by unfold ARatom; rw [if_pos hlt]; exact ho)
      refine ok_ite (fun q3 => ok_b (m_is (p := 91) hT M6 (by unfold mark; decide)) (fun v9 s10 g9 => ?_)) (fun q3 => ok_l fun v20 e20 => ok_b (m_nextG hB hT M6) (fun _ s23 g23 => ?_))
      · obtain ⟨rfl, g9⟩ := g9
        have g9 : v9 = 0 ↔ ¬ cd = 91 := g9
        have n48 : ¬ cd = 48 := fun z => q3 (by rw [z_eq, h9, k1, mt1]; exact z)
        refine ok_ite (fun q4 => ok_b (m_is (p := 46) hT M6 (by unfold mark; decide)) (fun v13 s14 g13 => ?_)) (fun q4 => ?_)
        · obtain ⟨rfl, g13⟩ := g13
          have g13 : v13 = 0 ↔ ¬ cd = 46 := g13
          have n91 := g9.mp q4
          have m142 : ∀ (k : Int32) (a b' : Int), ((cd = 46 ∧ a = -999 ∧ b' = 999) ∧ k = 2 ∨ (cd = 114 ∧ a = -1000 ∧ b' = -1000) ∧ k = 3) → uOk (m_X12_atom_142 f s14 k) (fun v σ' => MGd tc tb (κ - 1) (pl + 1) (uRd tc tb u d A 0 rp lo hi Λ) d ν σ0 s2 (fun rp' _ Λ' G => rp' = true ∧ RA Λ d Λ' G) v σ' ∨ MBd κ (uRd tc tb u d A 0 rp lo hi Λ) σ0 σ') := fun k a b' hab => by
            have hk : k.toInt = 2 ∨ k.toInt = 3 := by
              rcases hab with ⟨-, rfl⟩ | ⟨-, rfl⟩
              · exact Or.inl rfl
              · exact Or.inr rfl
            unfold m_X12_atom_142
            refine ok_b (m_nodeG M6 (by omega) (by omega) (by omega) (fun z => by omega) (fun z => by omega) (fun z => by omega)) (fun v48 s49 g49 => ?_)
            obtain ⟨y1, y2, y3, y4, y5, y6⟩ := g49
            refine ok_b (m_nextG hB hT y2) (fun _ s52 g52 => ok_r (Or.inl ?_))
            obtain ⟨pl', cd', vl', nx', T', M', K'⟩ := g52
            have t' := T'.b
            refine ⟨nx, pl', cd', vl', nx', A + 1, ν + 1, lo, hi, _, true, ν, T', by omega, M', by omega, by omega, y1, by omega, (K6.tr y3 (Nat.le_refl _)).tr K' (by omega), by omega, Sat a b' (by rcases hab with ⟨z, -⟩ | ⟨z, -⟩ <;> simp [z]), rfl, fun k hk => upg_n (by omega), by rw [upg_s], by rw [upg_s], fun sg N i j => ?_⟩
            rw [upg_s, uLn.kp y2.2.2.2.2.2.2.2.2.2.2.1 K' (Nat.lt_succ_self _), uLn.at (by rw [y4]; omega)]
            unfold alo ahi
            rcases hab with ⟨⟨-, rfl, rfl⟩, rfl⟩ | ⟨⟨-, rfl, rfl⟩, rfl⟩
            · have y4 : nK s49 ν = 2 := y4
              rw [if_neg (by omega), if_pos y4, if_neg (by omega), if_pos y4]
            · have y4 : nK s49 ν = 3 := y4
              rw [if_neg (by omega), if_neg (by omega), if_neg (by omega), if_neg (by omega)]
          refine ok_ite (fun q5 => m142 3 (-1000) (-1000) (Or.inr ⟨⟨?_, rfl, rfl⟩, rfl⟩)) (fun q5 => m142 2 (-999) 999 (Or.inl ⟨⟨?_, rfl, rfl⟩, rfl⟩))
          · have := g13.mp q5; omega
          · exact Classical.not_not.mp (fun z => q5 (g13.mpr z))
        · have e91 : cd = 91 := Classical.not_not.mp (fun z => q4 (g9.mpr z))
          subst e91
          refine ok_b (m_range (rp := rp) (lo := lo) (hi := hi) (Λ := Λ) hB hT M6 hlt hκ hν) (fun v17 s18 g18 => ok_r ?_)
          rcases g18 with g | g
          · obtain ⟨u', pl', cd', vl', nx', A', ν', lo', hi'', Λ', rp', e, z1, z0, z2, z3, z4, z5, z6, z7, z8, z9, z10⟩ := g
            exact Or.inl ⟨u', pl', cd', vl', nx', A', ν', lo', hi'', Λ', rp', e, z1, z0, z2, z3, z4, z5, z6, K6.tr z7 (Nat.le_refl _), z8, z9, z10⟩
          · exact Or.inr g
      · obtain ⟨pl', cd', vl', nx', T', M', K'⟩ := g23
        have t' := T'.b
        have e48 : cd = 48 := by
          have q3 := Classical.not_not.mp q3
          rw [z_eq, h9, k1, mt1] at q3
          exact q3
        have d20 : v20.toInt = vl := by rw [e20]; exact M6.2.2.2.2.1 e48
        have bv := hT.v e48
        refine ok_b (m_nodeG M' (by omega) (by decide) (by decide) (fun _ => by rw [d20]; exact bv.1) (fun z => by rw [k1] at z; omega) (fun z => by rw [k1] at z; omega)) (fun v25 s26 g26 => ok_r (Or.inl ?_))
        obtain ⟨y1, y2, y3, y4, y5, y6⟩ := g26
        rw [k1] at y4
        refine ⟨nx, pl', cd', vl', nx', A + 1, ν + 1, lo, hi, _, true, ν, T', by omega, y2, by omega, by omega, y1, by omega, (K6.tr K' (Nat.le_refl _)).tr y3 (Nat.le_refl _), by omega, Sat vl vl (Or.inr (Or.inl ⟨e48, rfl, rfl⟩)), rfl, fun k hk => upg_n (by omega), by rw [upg_s], by rw [upg_s], fun sg N i j => ?_⟩
        rw [upg_s, uLn.at (Or.inl y4)]
        unfold alo ahi
        rw [if_pos y4, if_pos y4, y5, y6, d20]
    · have q2 := Classical.not_not.mp q2
      rw [z_eq, h19, k50] at q2
      have hA50 : ¬ A < 50 := by omega
      rcases hst with e | e | e | e | e
      · exact Satom vl vl (Or.inr (Or.inl ⟨e, rfl, rfl⟩)) _ (by unfold ARatom; rw [if_neg hA50])
      · exact Satom (-999) 999 (Or.inl ⟨e, rfl, rfl⟩) _ (by unfold ARatom; rw [if_neg hA50])
      · exact Satom (-1000) (-1000) (Or.inr (Or.inr ⟨e, rfl, rfl⟩)) _ (by unfold ARatom; rw [if_neg hA50])
      · refine uRd.s hT ?_
        unfold ARs
        rw [if_neg (by omega), if_pos rfl, if_neg (by omega), if_neg (by omega), if_neg (by omega), if_neg (by omega), if_neg (by omega), if_neg (by omega), if_pos e, if_neg hA50]
      · exact absurd e n40
  · have e40 : cd = 40 := Classical.not_not.mp (fun z => q1 (g1.mpr z))
    refine ok_ite (fun q2 => ok_l fun s32 e32 => ?_) (fun q2 => ok_b (m_faultS h (by decide)) (fun _ s46 g46 => ok_r (Or.inr ⟨4, pl, ν, pl, g46, hν, by omega, uRd.s hT ?_⟩)))
    · have hlt : d < 8 := by
        have : ¬ (d : Int) = 8 := fun z => q2 (by rw [z_eq, h20, k8]; exact z)
        omega
      obtain ⟨M32, K32⟩ := h.o e32 (op' := d + 1) (by rw [z_add1 (by omega), h20]; rfl)
      have S1 : ∀ o, uRd tc tb nx (d + 1) A 0 false lo hi (upg (upg Λ d ((Λ d).1, gCat (Λ d).2.1 (Λ d).2.2, gEps)) (d + 1) (gNo, gEps, gEps)) o → uRd tc tb u d A 0 rp lo hi Λ o := fun o ho => uRd.s hT (by
        unfold ARs
        rw [if_neg (by omega), if_pos rfl, if_neg (by omega), if_pos e40, if_pos hlt]
        exact ho)
      refine ok_b (m_nextG hB hT M32) (fun _ s35 g35 => ?_)
      obtain ⟨pl1, cd1, vl1, nx1, T1, M1, K1⟩ := g35
      have t1 := T1.b
      refine ok_b (hf hlt nx pl1 cd1 vl1 nx1 A ν lo hi (upg (upg Λ d ((Λ d).1, gCat (Λ d).2.1 (Λ d).2.2, gEps)) (d + 1) (gNo, gEps, gEps)) (κ - 2) s35 T1 M1 hA (by omega) (by omega) upg_s) (fun v37 s38 g38 => ?_)
      rcases g38 with g | g
      · obtain ⟨u2, pl2, cd2, vl2, nx2, A2, ν2, lo2, hi2, Λ2, rp2, e, T2, z0, M2, z3, z4, z5, z6, z7, z8, z9, z10⟩ := g
        obtain ⟨w1, w2, w3, w4, w5⟩ := z10
        have t2 := T2.b
        refine ok_b (m_takeG (p := 41) hB T2 M2 (by unfold mark; decide)) (fun _ s41 g41 => ok_l fun s43 e43 => ok_r ?_)
        by_cases c : cd2 = 41
        · obtain ⟨pl3, cd3, vl3, nx3, T3, M3, K3⟩ := g41.1 c
          have t3 := T3.b
          have n2 : pl2 < nx2 := t2.2.2.2.2 (by omega)
          have h20' : (s41.1 0 20).toInt = (d + 1 : Nat) := M3.2.2.2.2.2.2.2.2.1
          obtain ⟨M43, K43⟩ := M3.o e43 (op' := d) (by rw [z_sub1 (by omega), h20']; omega)
          refine Or.inl ⟨nx2, pl3, cd3, vl3, nx3, A2, ν2, lo2, hi2, upg Λ2 d ((Λ2 d).1, (Λ2 d).2.1, gAll (Λ2 (d + 1))), true, e, T3, by omega, M43, z3, by omega, z5, z6, ((K32.tr K1 (Nat.le_refl _)).tr z7 (Nat.le_refl _)).tr (K3.tr K43 (Nat.le_refl _)) z8, z8, fun o ho => S1 o (z9 o (uRd.s T2 ?_)), rfl, fun k hk => ?_, ?_, ?_, fun sg N i j => ?_⟩
          · unfold ARs
            rw [if_neg (by omega), if_pos rfl, if_neg (by omega), if_neg (by omega), if_pos c, if_neg (by omega)]
            exact ho
          · rw [upg_n (by omega), w1 k (by omega), upg_n (by omega), upg_n (by omega)]
          · rw [upg_s, w1 d (by omega), upg_n (by omega), upg_s]
          · rw [upg_s, w1 d (by omega), upg_n (by omega), upg_s]
          · rw [upg_s, uLn.kp M2.2.2.2.2.2.2.2.2.2.2.1 (K3.tr K43 (Nat.le_refl _)) z6]
            exact w2 sg N i j
        · have mf := g41.2 c
          have g6 : ∀ k i, ¬ (k = 0 ∧ i = 20) → s43.1 k i = s41.1 k i := fun k i z => by rw [e43, g_sI, if_neg z]
          refine Or.inr ⟨_, _, ν2, pl2, ⟨by rw [g6 _ _ (by omega)]; exact mf.1, by rw [g6 _ _ (by omega)]; exact mf.2.1, by rw [g6 _ _ (by omega)]; exact mf.2.2.1, by rw [g6 _ _ (by omega)]; exact mf.2.2.2.1, frM7 mf.2.2.2.2 (fun k i z => g6 k i (by omega)) (by rw [e43]; rfl)⟩, by omega, by omega, S1 _ (z9 _ (uRd.stop T2 w4 w5 w3 (fun z => absurd z c) (fun _ => by omega)))⟩
      · obtain ⟨ff, p, ν2, pl2, z1, z2, z3, z4⟩ := g
        refine ok_b (m_takeF z1) (fun _ s41 g41 => ok_l fun s43 e43 => ok_r (Or.inr ⟨ff, p, ν2, pl2, ?_, by omega, z3, S1 _ z4⟩))
        have g6 : ∀ k i, ¬ (k = 0 ∧ i = 20) → s43.1 k i = s41.1 k i := fun k i z => by rw [e43, g_sI, if_neg z]
        have g41 : s41 = s38 := g41
        subst g41
        exact ⟨by rw [g6 _ _ (by omega)]; exact z1.1, by rw [g6 _ _ (by omega)]; exact z1.2.1, by rw [g6 _ _ (by omega)]; exact z1.2.2.1, by rw [g6 _ _ (by omega)]; exact z1.2.2.2.1, frM7 z1.2.2.2.2 (fun k i z => g6 k i (by omega)) (by rw [e43]; rfl)⟩
    · have q2 := Classical.not_not.mp q2
      rw [z_eq, h20, k8] at q2
      unfold ARs
      rw [if_neg (by omega), if_pos rfl, if_neg (by omega), if_pos e40, if_neg (by omega)]
