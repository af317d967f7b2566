/-! ===== items, rows, alternatives of the model's reader ===== -/
theorem lg_eq {A B : LG} (h : ∀ sg N i j, A sg N i j ↔ B sg N i j) : A = B := by
  funext sg N i j
  exact propext (h sg N i j)
def RITM (d : Nat) (Λ : Nat → GL) (rp' : Bool) (cd' : Int) (Λ' : Nat → GL) (G : LG) : Prop := (rp' = true → unr cd') ∧ RA Λ d Λ' G
theorem m_item {tc : Nat} {tb : Nat → Int} {σ0 : SG} {f : SG → Option (Int32 × SG)} {d : Nat} (hB : uTB tc tb) (hf : uATM tc tb σ0 f d (fun Λ rp' _ Λ' G => rp' = true ∧ RA Λ d Λ' G)) : uATM tc tb σ0 (m_X12_item f) d (RITM d) := by
  intro u pl cd vl nx A ν rp lo hi Λ κ σ hT h hA hi' hκ hν
  have b := hB.1
  unfold m_X12_item m_X12_item_0
  refine ok_b (hf u pl cd vl nx A ν rp lo hi Λ κ σ hT h hA hi' hκ hν) (fun v1 s2 g2 => ?_)
  rcases g2 with g | g
  · obtain ⟨u1, pl1, cd1, vl1, nx1, A1, ν1, lo1, hi1, Λ1, rp1, e, T1, z0, M1, z3, z4, z5, z6, z7, z8, z9, rfl, w1, w2, w3, w4⟩ := g
    have t1 := T1.b
    have m32 : (cd1 = 42 ∨ cd1 = 43 ∨ cd1 = 63) → uOk (m_X12_item_32 f s2 v1) (fun v σ' => MGd tc tb (κ - 1) (pl + 1) (uRd tc tb u d A 0 rp lo hi Λ) d ν σ0 σ (RITM d Λ) v σ' ∨ MBd κ (uRd tc tb u d A 0 rp lo hi Λ) σ0 σ') := fun hc => by
      have n1 : pl1 < nx1 := t1.2.2.2.2 (by omega)
      have hw : (s2.1 0 11).toInt = cd1 := M1.2.2.2.2.2.1 (by unfold mark; omega)
      have m63 : ∀ k : Int32, (k.toInt = 6 ∧ cd1 = 42 ∨ k.toInt = 7 ∧ cd1 = 43 ∨ k.toInt = 8 ∧ cd1 = 63) → uOk (m_X12_item_63 f s2 v1 k) (fun v σ' => MGd tc tb (κ - 1) (pl + 1) (uRd tc tb u d A 0 rp lo hi Λ) d ν σ0 σ (RITM d Λ) v σ' ∨ MBd κ (uRd tc tb u d A 0 rp lo hi Λ) σ0 σ') := fun k hk => by
        unfold m_X12_item_63
        refine ok_b (m_nodeG M1 (by omega) (by omega) (by omega) (fun z => by omega) (fun z => by omega) (fun z => by omega)) (fun v18 s19 g19 => ?_)
        obtain ⟨y1, y2, y3, y4, y5, y6⟩ := g19
        refine ok_b (m_nextG hB T1 y2) (fun _ s22 g22 => ok_r (Or.inl ?_))
        obtain ⟨pl', cd', vl', nx', T', M', K'⟩ := g22
        have t' := T'.b
        refine ⟨nx1, pl', cd', vl', nx', A1, ν1 + 1, lo1, hi1, upg Λ1 d ((Λ1 d).1, (Λ1 d).2.1, gRpt cd1 (Λ1 d).2.2), false, ν1, T', by omega, M', z3, by omega, y1, by omega, (z7.tr y3 z8).tr K' (by omega), by omega, fun o ho => z9 o (uRd.s T1 ?_), fun z => (by cases z), fun k hk => ?_, ?_, ?_, fun sg N i j => ?_⟩
        · unfold ARs
          rw [if_neg (by omega), if_pos rfl, if_neg (by omega), if_neg (by omega), if_neg (by omega), if_pos hc, if_pos rfl]
          exact ho
        · rw [upg_n (by omega)]; exact w1 k hk
        · rw [upg_s]; exact w2
        · rw [upg_s]; exact w3
        · rw [upg_s, uLn.kp y2.2.2.2.2.2.2.2.2.2.2.1 K' (Nat.lt_succ_self _)]
          have e1 : (Λ1 d).2.2 = uLn s2 e := lg_eq w4
          have e2 : uLt s19 399 (nA s19 ν1).toNat = uLn s2 e := by
            rw [y5, z5, Int.toNat_natCast]
            rw [uLn.up y2.2.2.2.2.2.2.2.2.2.2.1 (by omega) (by omega)]
            exact uLn.kp M1.2.2.2.2.2.2.2.2.2.2.1 y3 z6
          show gRpt cd1 (Λ1 d).2.2 sg N i j ↔ _
          rw [e1, uLn.e (σ := s19) (e := ν1), e2, y4]
          unfold gRpt
          rcases hk with ⟨k6, c⟩ | ⟨k6, c⟩ | ⟨k6, c⟩
          · rw [if_neg (by omega), if_neg (by omega), if_neg (by omega), if_neg (by omega), if_neg (by omega), if_pos k6]
          · rw [if_neg (by omega), if_pos c, if_neg (by omega), if_neg (by omega), if_neg (by omega), if_neg (by omega), if_pos k6]
          · rw [if_pos c, if_neg (by omega), if_neg (by omega), if_neg (by omega), if_neg (by omega), if_neg (by omega), if_pos k6]
      have kc : ∀ x : Int32, s2.1 0 11 = x ↔ cd1 = x.toInt := fun x => by rw [z_eq, hw]
      unfold m_X12_item_32
      refine ok_ite (fun q => ok_ite (fun q2 => m63 8 (Or.inr (Or.inr ⟨rfl, ?_⟩))) (fun q2 => m63 7 (Or.inr (Or.inl ⟨rfl, (kc 43).mp (Classical.not_not.mp q2)⟩)))) (fun q => m63 6 (Or.inl ⟨rfl, (kc 42).mp (Classical.not_not.mp q)⟩))
      have a1 : ¬ cd1 = 42 := fun z => q ((kc 42).mpr z)
      have a2 : ¬ cd1 = 43 := fun z => q2 ((kc 43).mpr z)
      omega
    refine ok_b (m_is (p := 42) T1 M1 (by unfold mark; decide)) (fun v4 s5 g4 => ?_)
    obtain ⟨rfl, g4⟩ := g4
    have g4 : v4 = 0 ↔ ¬ cd1 = 42 := g4
    refine ok_ite (fun q => m32 (Or.inl (Classical.not_not.mp (fun z => q (g4.mpr z))))) (fun q => ok_b (m_is (p := 43) T1 M1 (by unfold mark; decide)) (fun v8 s9 g8 => ?_))
    obtain ⟨rfl, g8⟩ := g8
    have g8 : v8 = 0 ↔ ¬ cd1 = 43 := g8
    refine ok_ite (fun q2 => m32 (Or.inr (Or.inl (Classical.not_not.mp (fun z => q2 (g8.mpr z)))))) (fun q2 => ok_b (m_is (p := 63) T1 M1 (by unfold mark; decide)) (fun v12 s13 g12 => ?_))
    obtain ⟨rfl, g12⟩ := g12
    have g12 : v12 = 0 ↔ ¬ cd1 = 63 := g12
    refine ok_ite (fun q3 => ok_r (Or.inl ⟨u1, pl1, cd1, vl1, nx1, A1, ν1, lo1, hi1, Λ1, true, e, T1, z0, M1, z3, z4, z5, z6, z7, z8, z9, fun _ z => ?_, w1, w2, w3, w4⟩)) (fun q3 => m32 (Or.inr (Or.inr (Classical.not_not.mp (fun z => q3 (g12.mpr z))))))
    have a1 := g4.mp (Classical.not_not.mp q)
    have a2 := g8.mp (Classical.not_not.mp q2)
    have a3 := g12.mp q3
    omega
  · obtain ⟨ff, p, ν2, pl2, z1, z2, z3, z4⟩ := g
    refine ok_b (m_isF z1) (fun v4 s5 g4 => ?_)
    obtain ⟨rfl, rfl⟩ := g4
    rw [if_neg (fun z => z rfl)]
    refine ok_b (m_isF z1) (fun v8 s9 g8 => ?_)
    obtain ⟨rfl, rfl⟩ := g8
    rw [if_neg (fun z => z rfl)]
    refine ok_b (m_isF z1) (fun v12 s13 g12 => ?_)
    obtain ⟨rfl, rfl⟩ := g12
    rw [if_pos rfl]
    exact ok_r (Or.inr ⟨ff, p, ν2, pl2, z1, z2, z3, z4⟩)
def RROW (d : Nat) (Λ : Nat → GL) (rp' : Bool) (cd' : Int) (Λ' : Nat → GL) (G : LG) : Prop := (∀ k, k < d → Λ' k = Λ k) ∧ (Λ' d).1 = (Λ d).1 ∧ (∀ sg N i j, gCat (Λ' d).2.1 (Λ' d).2.2 sg N i j ↔ G sg N i j) ∧ (rp' = true → unr cd') ∧ uni cd'
def uROW (tc : Nat) (tb : Nat → Int) (σ0 : SG) (f : SG → Option (Int32 × SG)) (d : Nat) : Prop := ∀ (u pl : Nat) (cd vl : Int) (nx A ν : Nat) (lo hi : Int) (Λ : Nat → GL) (κ : Int) (σ : SG), Tok tc tb u pl cd vl nx → MG tc tb pl cd vl nx A d ν σ0 σ → A ≤ 50 → κ ≤ 0 → (ν : Int) ≤ 2 * pl + κ → (Λ d).2 = (gEps, gEps) → uOk (f σ) (fun v σ' => MGd tc tb (κ + 1) pl (uRd tc tb u d A 0 false lo hi Λ) d ν σ0 σ (RROW d Λ) v σ' ∨ MBd (κ + 2) (uRd tc tb u d A 0 false lo hi Λ) σ0 σ')
theorem m_row8 {tc : Nat} {tb : Nat → Int} {σ0 : SG} {f : SG → Option (Int32 × SG)} {d : Nat} (hB : uTB tc tb) (hf : uATM tc tb σ0 f d (RITM d)) {S : OUT → Prop} {Λ : Nat → GL} {κ : Int} {ν pm : Nat} {σs : SG} (hκ : κ ≤ 0) : ∀ (n fuel u pl : Nat) (cd vl : Int) (nx A ν1 : Nat) (rp : Bool) (lo hi : Int) (Λ1 : Nat → GL) (e : Nat) (σ : SG) (l1 : Int32), n < fuel → 161 ≤ pl + n → Tok tc tb u pl cd vl nx → pm ≤ pl → MG tc tb pl cd vl nx A d ν1 σ0 σ → A ≤ 50 → (ν1 : Int) ≤ 2 * pl + (κ + 1) → l1.toInt = (e : Nat) → e < ν1 → kpt ν σs σ → ν ≤ ν1 → (∀ o, uRd tc tb u d A 0 rp lo hi Λ1 o → S o) → (∀ k, k < d → Λ1 k = Λ k) → (Λ1 d).1 = (Λ d).1 → (∀ sg N i j, gCat (Λ1 d).2.1 (Λ1 d).2.2 sg N i j ↔ uLn σ e sg N i j) → (rp = true → unr cd) → uOk (m_X12_row_8 f fuel σ l1) (fun v σ' => MGd tc tb (κ + 1) pm S d ν σ0 σs (RROW d Λ) v σ' ∨ MBd (κ + 2) S σ0 σ') := by
  have b := hB.1
  intro n
  induction n with
  | zero => intro fuel u pl cd vl nx A ν1 rp lo hi Λ1 e σ l1 h1 h2 hT; have := hT.b; omega
  | succ n ih =>
    intro fuel u pl cd vl nx A ν1 rp lo hi Λ1 e σ l1 h1 h2 hT hpm h hA hν hl he hk hνν hS w1 w2 w3 w4
    have t := hT.b
    cases fuel with
    | zero => omega
    | succ fuel =>
      show uOk (m_X12_row_8_s f _ σ l1) _
      unfold m_X12_row_8_s
      have hg : σ.1 0 12 = 0 := h.2.2.2.2.2.2.1
      have h9 : (σ.1 0 9).toInt = mtk cd := h.2.2.1
      have k1 : ((1 : Int32)).toInt = 1 := rfl
      have mt1 : ∀ c : Int, mtk c = 1 ↔ c = 48 := fun c => by unfold mtk; split <;> (try split) <;> (try split) <;> omega
      have m59 : ¬ uni cd → uOk (m_X12_row_59 f (m_X12_row_8 f fuel) σ l1) (fun v σ' => MGd tc tb (κ + 1) pm S d ν σ0 σs (RROW d Λ) v σ' ∨ MBd (κ + 2) S σ0 σ') := fun hc => by
        unfold m_X12_row_59
        refine ok_b (hf u pl cd vl nx A ν1 rp lo hi Λ1 (κ + 1) σ hT h hA hc (by omega) hν) (fun v25 s26 g26 => ?_)
        rcases g26 with g | g
        · obtain ⟨u2, pl2, cd2, vl2, nx2, A2, ν2, lo2, hi2, Λ2, rp2, e2, T2, z0, M2, z3, z4, z5, z6, z7, z8, z9, x1, x2, x3, x4, x5⟩ := g
          have t2 := T2.b
          have k4 : ((4 : Int32)).toInt = 4 := rfl
          refine ok_b (m_nodeG M2 (by omega) (by decide) (by decide) (fun z => by rw [k4] at z; omega) (fun z => by omega) (fun z => by rw [k4] at z; omega)) (fun v28 s29 g29 => ?_)
          obtain ⟨y1, y2, y3, y4, y5, y6⟩ := g29
          rw [k4] at y4
          refine ih fuel u2 pl2 cd2 vl2 nx2 A2 (ν2 + 1) rp2 lo2 hi2 Λ2 ν2 s29 v28 (by omega) (by omega) T2 (by omega) y2 z3 (by omega) y1 (by omega) ((hk.tr z7 hνν).tr y3 (by omega)) (by omega) (fun o ho => hS o (z9 o ho)) (fun k hk => (x2 k hk).trans (w1 k hk)) (x3.trans w2) (fun sg N i j => ?_) x1
          · have e1 : (Λ2 d).2.2 = uLn s26 e2 := lg_eq x5
            have e3 : (Λ2 d).2.1 = uLn σ e := x4.trans (lg_eq w3)
            have W1 := h.2.2.2.2.2.2.2.2.2.2.1
            have W2 := M2.2.2.2.2.2.2.2.2.2.2.1
            have W3 := y2.2.2.2.2.2.2.2.2.2.2.1
            rw [e1, e3, uLn.e (σ := s29) (e := ν2), if_neg (by omega), if_pos y4, y5, y6, hl, z5, Int.toNat_natCast, Int.toNat_natCast, uLn.up W3 (by omega) (by omega), uLn.up W3 (by omega) (by omega), uLn.kp W2 y3 z6, uLn.kp W2 y3 (by omega), uLn.kp W1 z7 he]
        · obtain ⟨ff, p, ν2, pl2, z1, z2, z3, z4⟩ := g
          refine ok_b (m_nodeF z1 (by omega)) (fun v28 s29 g29 => ?_)
          cases fuel with
          | zero => omega
          | succ fuel =>
            show uOk (m_X12_row_8_s f _ s29 v28) _
            unfold m_X12_row_8_s
            refine ok_b m_good (fun v4 s5 g4 => ?_)
            obtain ⟨rfl, g4⟩ := g4
            rw [if_pos (g4.mpr g29.1)]
            exact ok_r (Or.inr ⟨ff, p, ν2 + 1, pl2, g29, by omega, z3, hS _ z4⟩)
      refine ok_b m_good (fun v4 s5 g4 => ?_)
      obtain ⟨rfl, g4⟩ := g4
      refine ok_ite (fun q => absurd hg (g4.mp q)) (fun _ => ok_ite (fun q => m59 (fun z => z (Or.inl ?_))) (fun q => ?_))
      · rw [z_eq, h9, k1, mt1] at q; exact q
      have n48 : ¬ cd = 48 := fun z => q (by rw [z_eq, h9, k1, mt1]; exact z)
      refine ok_b (m_is (p := 46) hT h (by unfold mark; decide)) (fun v9 s10 g9 => ?_)
      obtain ⟨rfl, g9⟩ := g9
      have g9 : v9 = 0 ↔ ¬ cd = 46 := g9
      refine ok_ite (fun q => m59 (fun z => z (Or.inr (Or.inl (Classical.not_not.mp (fun y => q (g9.mpr y))))))) (fun q9 => ok_b (m_is (p := 114) hT h (by unfold mark; decide)) (fun v13 s14 g13 => ?_))
      obtain ⟨rfl, g13⟩ := g13
      have g13 : v13 = 0 ↔ ¬ cd = 114 := g13
      refine ok_ite (fun q => m59 (fun z => z (Or.inr (Or.inr (Or.inl (Classical.not_not.mp (fun y => q (g13.mpr y)))))))) (fun q13 => ok_b (m_is (p := 91) hT h (by unfold mark; decide)) (fun v17 s18 g17 => ?_))
      obtain ⟨rfl, g17⟩ := g17
      have g17 : v17 = 0 ↔ ¬ cd = 91 := g17
      refine ok_ite (fun q => m59 (fun z => z (Or.inr (Or.inr (Or.inr (Or.inl (Classical.not_not.mp (fun y => q (g17.mpr y))))))))) (fun q17 => ok_b (m_is (p := 40) hT h (by unfold mark; decide)) (fun v21 s22 g21 => ?_))
      obtain ⟨rfl, g21⟩ := g21
      have g21 : v21 = 0 ↔ ¬ cd = 40 := g21
      refine ok_ite (fun q21 => ok_r (Or.inl ⟨u, pl, cd, vl, nx, A, ν1, lo, hi, Λ1, rp, e, hT, hpm, h, hA, hν, hl, he, hk, hνν, hS, w1, w2, w3, w4, fun z => ?_⟩)) (fun q => m59 (fun z => z (Or.inr (Or.inr (Or.inr (Or.inr (Classical.not_not.mp (fun y => q (g21.mpr y)))))))))
      have a1 := g9.mp (Classical.not_not.mp q9)
      have a2 := g13.mp (Classical.not_not.mp q13)
      have a3 := g17.mp (Classical.not_not.mp q17)
      have a4 := g21.mp q21
      omega
theorem gCat_ee : gCat gEps gEps = gEps := lg_eq (fun _ _ i _ => ⟨fun ⟨k, h1, h2⟩ => by rw [show i = k from h1]; exact h2, fun h => ⟨i, rfl, h⟩⟩)
theorem gOr_no {A : LG} : gOr gNo A = A := lg_eq (fun _ _ _ _ => ⟨fun h => h.elim (fun h => h.elim) (fun h => h), fun h => Or.inr h⟩)
theorem m_row {tc : Nat} {tb : Nat → Int} {σ0 : SG} {f : SG → Option (Int32 × SG)} {d : Nat} (hB : uTB tc tb) (hf : uATM tc tb σ0 f d (RITM d)) : uROW tc tb σ0 (m_X12_row f) d := by
  intro u pl cd vl nx A ν lo hi Λ κ σ hT h hA hκ hν hΛ
  have b := hB.1
  have t := hT.b
  unfold m_X12_row m_X12_row_0
  have k0 : ((0 : Int32)).toInt = 0 := rfl
  refine ok_b (m_nodeG h (by omega) (by decide) (by decide) (fun z => by rw [k0] at z; omega) (fun z => by rw [k0] at z; omega) (fun z => by rw [k0] at z; omega)) (fun v1 s2 g2 => ?_)
  obtain ⟨y1, y2, y3, y4, y5, y6⟩ := g2
  rw [k0] at y4
  refine m_row8 hB hf hκ (161 - pl) FV u pl cd vl nx A (ν + 1) false lo hi Λ ν s2 v1 (FV_big (by omega)) (by omega) hT (Nat.le_refl _) y2 hA (by omega) y1 (by omega) y3 (by omega) (fun o ho => ho) (fun _ _ => rfl) rfl (fun sg N i j => ?_) (fun z => by cases z)
  rw [hΛ, gCat_ee, uLn.e, if_pos y4]
theorem m_alt5 {tc : Nat} {tb : Nat → Int} {σ0 : SG} {f : SG → Option (Int32 × SG)} {d : Nat} (hB : uTB tc tb) (hf : uROW tc tb σ0 f d) {S : OUT → Prop} {Λ : Nat → GL} {κ : Int} {ν pm : Nat} {σs : SG} (hκ : κ ≤ 0) : ∀ (n fuel u pl : Nat) (cd vl : Int) (nx A ν1 : Nat) (rp : Bool) (lo hi : Int) (Λ1 : Nat → GL) (e : Nat) (σ : SG) (l1 : Int32), n < fuel → 161 ≤ pl + n → Tok tc tb u pl cd vl nx → pm ≤ pl → MG tc tb pl cd vl nx A d ν1 σ0 σ → A ≤ 50 → (ν1 : Int) ≤ 2 * pl + (κ + 1) → l1.toInt = (e : Nat) → e < ν1 → kpt ν σs σ → ν ≤ ν1 → (∀ o, uRd tc tb u d A 0 rp lo hi Λ1 o → S o) → (∀ k, k < d → Λ1 k = Λ k) → (∀ sg N i j, gAll (Λ1 d) sg N i j ↔ uLn σ e sg N i j) → (rp = true → unr cd) → uni cd → uOk (m_X12_alternatives_5 f fuel σ l1) (fun v σ' => MGd tc tb (κ + 1) pm S d ν σ0 σs (RALT Λ d) v σ' ∨ MBd (κ + 2) S σ0 σ') := by
  have b := hB.1
  intro n
  induction n with
  | zero => intro fuel u pl cd vl nx A ν1 rp lo hi Λ1 e σ l1 h1 h2 hT; have := hT.b; omega
  | succ n ih =>
    intro fuel u pl cd vl nx A ν1 rp lo hi Λ1 e σ l1 h1 h2 hT hpm h hA hν hl he hk hνν hS w1 w3 w4 w5
    have t := hT.b
    cases fuel with
    | zero => omega
    | succ fuel =>
      show uOk (m_X12_alternatives_5_s f _ σ l1) _
      unfold m_X12_alternatives_5_s
      refine ok_b (m_is (p := 124) hT h (by unfold mark; decide)) (fun v4 s5 g4 => ?_)
      obtain ⟨rfl, g4⟩ := g4
      have g4 : v4 = 0 ↔ ¬ cd = 124 := g4
      refine ok_ite (fun q => ok_r (Or.inl ⟨u, pl, cd, vl, nx, A, ν1, lo, hi, Λ1, rp, e, hT, hpm, h, hA, hν, hl, he, hk, hνν, hS, w1, w3, w4, w5, g4.mp q⟩)) (fun q => ?_)
      have e124 : cd = 124 := Classical.not_not.mp (fun z => q (g4.mpr z))
      have n0 : pl < nx := t.2.2.2.2 (by omega)
      have S1 : ∀ o, uRd tc tb nx d A 0 false lo hi (upg Λ1 d (gAll (Λ1 d), gEps, gEps)) o → S o := fun o ho => hS o (uRd.s hT (by
        unfold ARs
        rw [if_neg (by omega), if_pos rfl, if_neg (by omega), if_neg (by omega), if_neg (by omega), if_neg (by omega), if_neg (by omega), if_neg (by omega), if_neg (by omega), if_neg (by omega), if_pos e124]
        exact ho))
      refine ok_b (m_nextG hB hT h) (fun _ s9 g9 => ?_)
      obtain ⟨pl', cd', vl', nx', T', M', K'⟩ := g9
      have t' := T'.b
      refine ok_b (hf nx pl' cd' vl' nx' A ν1 lo hi (upg Λ1 d (gAll (Λ1 d), gEps, gEps)) (κ - 1) s9 T' M' hA (by omega) (by omega) (by rw [upg_s])) (fun v11 s12 g12 => ?_)
      rcases g12 with g | g
      · obtain ⟨u2, pl2, cd2, vl2, nx2, A2, ν2, lo2, hi2, Λ2, rp2, e2, T2, z0, M2, z3, z4, z5, z6, z7, z8, z9, x1, x2, x3, x4, x5⟩ := g
        have t2 := T2.b
        have k5 : ((5 : Int32)).toInt = 5 := rfl
        refine ok_b (m_nodeG M2 (by omega) (by decide) (by decide) (fun z => by rw [k5] at z; omega) (fun z => by omega) (fun z => by rw [k5] at z; omega)) (fun v14 s15 g15 => ?_)
        obtain ⟨y1, y2, y3, y4, y5, y6⟩ := g15
        rw [k5] at y4
        refine ih fuel u2 pl2 cd2 vl2 nx2 A2 (ν2 + 1) rp2 lo2 hi2 Λ2 ν2 s15 v14 (by omega) (by omega) T2 (by omega) y2 z3 (by omega) y1 (by omega) (((hk.tr K' hνν).tr z7 hνν).tr y3 (by omega)) (by omega) (fun o ho => S1 o (z9 o ho)) (fun k hk => ((x1 k hk).trans (upg_n (by omega))).trans (w1 k hk)) (fun sg N i j => ?_) x4 x5
        have e1 : (Λ2 d).1 = uLn s5 e := by rw [x2, upg_s]; exact lg_eq w3
        have e3 : gCat (Λ2 d).2.1 (Λ2 d).2.2 = uLn s12 e2 := lg_eq x3
        have W0 := h.2.2.2.2.2.2.2.2.2.2.1
        have W1 := M'.2.2.2.2.2.2.2.2.2.2.1
        have W2 := M2.2.2.2.2.2.2.2.2.2.2.1
        have W3 := y2.2.2.2.2.2.2.2.2.2.2.1
        unfold gAll
        rw [e1, e3, uLn.e (σ := s15) (e := ν2), if_neg (by omega), if_neg (by omega), if_pos y4, y5, y6, hl, z5, Int.toNat_natCast, Int.toNat_natCast, uLn.up W3 (by omega) (by omega), uLn.up W3 (by omega) (by omega), uLn.kp W2 y3 z6, uLn.kp W2 y3 (by omega), uLn.kp W1 z7 he, uLn.kp W0 K' he]
      · obtain ⟨ff, p, ν2, pl2, z1, z2, z3, z4⟩ := g
        refine ok_b (m_nodeF z1 (by omega)) (fun v14 s15 g15 => ?_)
        cases fuel with
        | zero => omega
        | succ fuel =>
          show uOk (m_X12_alternatives_5_s f _ s15 v14) _
          unfold m_X12_alternatives_5_s
          refine ok_b (m_isF g15) (fun v4 s5 g4 => ?_)
          obtain ⟨rfl, rfl⟩ := g4
          rw [if_pos rfl]
          exact ok_r (Or.inr ⟨ff, p, ν2 + 1, pl2, g15, by omega, z3, S1 _ z4⟩)
theorem m_alts {tc : Nat} {tb : Nat → Int} {σ0 : SG} {f : SG → Option (Int32 × SG)} {d : Nat} (hB : uTB tc tb) (hf : uROW tc tb σ0 f d) : uALT tc tb σ0 (m_X12_alternatives f) d := by
  intro u pl cd vl nx A ν lo hi Λ κ σ hT h hA hκ hν hΛ
  have b := hB.1
  have t := hT.b
  unfold m_X12_alternatives m_X12_alternatives_0
  refine ok_b (hf u pl cd vl nx A ν lo hi Λ κ σ hT h hA hκ hν (by rw [hΛ])) (fun v1 s2 g2 => ?_)
  rcases g2 with g | g
  · obtain ⟨u2, pl2, cd2, vl2, nx2, A2, ν2, lo2, hi2, Λ2, rp2, e2, T2, z0, M2, z3, z4, z5, z6, z7, z8, z9, x1, x2, x3, x4, x5⟩ := g
    refine m_alt5 hB hf hκ 161 FV u2 pl2 cd2 vl2 nx2 A2 ν2 rp2 lo2 hi2 Λ2 e2 s2 v1 (FV_big (by omega)) (by omega) T2 z0 M2 z3 z4 z5 z6 z7 z8 z9 x1 (fun sg N i j => ?_) x4 x5
    unfold gAll
    rw [x2, hΛ, gOr_no]
    exact x3 sg N i j
  · obtain ⟨ff, p, ν2, pl2, z1, z2, z3, z4⟩ := g
    obtain ⟨fuel, ef⟩ : ∃ n, FV = n + 1 := ⟨FV - 1, by have := FV_big (n := 1) (by omega); omega⟩
    rw [ef]
    show uOk (m_X12_alternatives_5_s f _ s2 v1) _
    unfold m_X12_alternatives_5_s
    refine ok_b (m_isF z1) (fun v4 s5 g4 => ?_)
    obtain ⟨rfl, rfl⟩ := g4
    rw [if_pos rfl]
    exact ok_r (Or.inr ⟨ff, p, ν2, pl2, z1, z2, z3, z4⟩)
theorem m_talt {tc : Nat} {tb : Nat → Int} {σ0 : SG} (hB : uTB tc tb) : ∀ (n d : Nat), 8 ≤ d + n → d ≤ 8 → uALT tc tb σ0 (t_alt (n + 1)) d
  | 0, d, h, q => m_alts hB (m_row hB (m_item hB (m_atom hB q (fun z => by omega))))
  | n + 1, d, h, q => m_alts hB (m_row hB (m_item hB (m_atom hB q (fun z => m_talt hB n (d + 1) (by omega) (by omega)))))
