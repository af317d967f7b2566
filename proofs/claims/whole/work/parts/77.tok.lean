/-! ===== tokens of the tape ===== -/
def mark (b : Int) : Prop := b = 40 ∨ b = 41 ∨ b = 42 ∨ b = 43 ∨ b = 44 ∨ b = 46 ∨ b = 63 ∨ b = 91 ∨ b = 93 ∨ b = 114 ∨ b = 124
def dgt (tc : Nat) (tb : Nat → Int) (k : Nat) : Prop := k < tc ∧ 48 ≤ tb k ∧ tb k ≤ 57
def nval (tb : Nat → Int) (bg : Nat) : Nat → Int
  | 0 => 0
  | k + 1 => 10 * nval tb bg k + tb (bg + k) - 48
def isSp (tc : Nat) (tb : Nat → Int) (u pl : Nat) : Prop := u ≤ pl ∧ pl ≤ tc ∧ (∀ k, u ≤ k → k < pl → tb k = 32) ∧ (pl < tc → tb pl ≠ 32)
def isNum (tc : Nat) (tb : Nat → Int) (bg nd : Nat) : Prop := bg ≤ nd ∧ (∀ k, bg ≤ k → k < nd → dgt tc tb k) ∧ ¬ dgt tc tb nd
def bgn (tb : Nat → Int) (pl : Nat) : Nat := if tb pl = 45 then pl + 1 else pl
/-- the token that is read from u on: it begins at pl, is cd (0: the end, 48: a number, -1: none) with the value vl, and nx lies behind it -/
def Tok (tc : Nat) (tb : Nat → Int) (u pl : Nat) (cd vl : Int) (nx : Nat) : Prop := isSp tc tb u pl ∧
  ((pl = tc ∧ cd = 0 ∧ nx = pl) ∨ (pl < tc ∧ dgt tc tb (bgn tb pl) ∧ isNum tc tb (bgn tb pl) nx ∧ (nx - bgn tb pl ≤ 3 → cd = 48 ∧ vl = if tb pl = 45 then -(nval tb (bgn tb pl) (nx - bgn tb pl)) else nval tb (bgn tb pl) (nx - bgn tb pl)) ∧ (3 < nx - bgn tb pl → cd = -1)) ∨
   (pl < tc ∧ ¬ dgt tc tb (bgn tb pl) ∧ nx = pl + 1 ∧ (mark (tb pl) → cd = tb pl) ∧ (¬ mark (tb pl) → cd = -1)))
theorem isSp.uniq {tc : Nat} {tb : Nat → Int} {u pl pl' : Nat} (h : isSp tc tb u pl) (q : isSp tc tb u pl') : pl = pl' := by
  obtain ⟨a1, a2, a3, a4⟩ := h
  obtain ⟨b1, b2, b3, b4⟩ := q
  by_cases z : pl < pl'
  · exact absurd (b3 pl a1 z) (a4 (by omega))
  · by_cases y : pl' < pl
    · exact absurd (a3 pl' b1 y) (b4 (by omega))
    · omega
theorem isNum.uniq {tc : Nat} {tb : Nat → Int} {bg nd nd' : Nat} (h : isNum tc tb bg nd) (q : isNum tc tb bg nd') : nd = nd' := by
  obtain ⟨a1, a2, a3⟩ := h
  obtain ⟨b1, b2, b3⟩ := q
  by_cases z : nd < nd'
  · exact absurd (b2 nd a1 z) a3
  · by_cases y : nd' < nd
    · exact absurd (a2 nd' b1 y) b3
    · omega
theorem Tok.uniq {tc : Nat} {tb : Nat → Int} {u pl pl' nx nx' : Nat} {cd vl cd' vl' : Int} (h : Tok tc tb u pl cd vl nx) (q : Tok tc tb u pl' cd' vl' nx') : pl = pl' ∧ cd = cd' ∧ nx = nx' ∧ (cd = 48 → vl = vl') := by
  obtain ⟨h1, h2⟩ := h
  obtain ⟨q1, q2⟩ := q
  have e := h1.uniq q1
  subst e
  refine ⟨rfl, ?_⟩
  have mk48 : mark (48 : Int) → False := fun z => by unfold mark at z; omega
  rcases h2 with ⟨a1, a2, a3⟩ | ⟨a1, a2, a3, a4, a5⟩ | ⟨a1, a2, a3, a4, a5⟩
  · rcases q2 with ⟨b1, b2, b3⟩ | ⟨b1, -⟩ | ⟨b1, -⟩
    · exact ⟨by omega, by omega, fun z => by omega⟩
    · omega
    · omega
  · rcases q2 with ⟨b1, b2, b3⟩ | ⟨b1, b2, b3, b4, b5⟩ | ⟨b1, b2, b3, b4, b5⟩
    · omega
    · have e := a3.uniq b3
      subst e
      by_cases z : nx - bgn tb pl ≤ 3
      · have c1 := a4 z
        have c2 := b4 z
        exact ⟨by rw [c1.1, c2.1], rfl, fun _ => by rw [c1.2, c2.2]⟩
      · have c1 := a5 (by omega)
        have c2 := b5 (by omega)
        exact ⟨by rw [c1, c2], rfl, fun y => by omega⟩
    · exact absurd a2 b2
  · rcases q2 with ⟨b1, b2, b3⟩ | ⟨b1, b2, b3, b4, b5⟩ | ⟨b1, b2, b3, b4, b5⟩
    · omega
    · exact absurd b2 a2
    · by_cases z : mark (tb pl)
      · have c1 := a4 z
        have c2 := b4 z
        refine ⟨by rw [c1, c2], by omega, fun y => ?_⟩
        rw [← c1, y] at z
        exact (mk48 z).elim
      · have c1 := a5 z
        have c2 := b5 z
        exact ⟨by rw [c1, c2], by omega, fun y => by omega⟩
theorem Tok.b {tc : Nat} {tb : Nat → Int} {u pl nx : Nat} {cd vl : Int} (h : Tok tc tb u pl cd vl nx) : u ≤ pl ∧ pl ≤ tc ∧ pl ≤ nx ∧ nx ≤ tc ∧ (cd ≠ 0 → pl < nx) := by
  obtain ⟨⟨h1, h2, h3, h4⟩, h5⟩ := h
  rcases h5 with ⟨a1, a2, a3⟩ | ⟨a1, a2, a3, a4, a5⟩ | ⟨a1, a2, a3, a4, a5⟩
  · exact ⟨h1, h2, by omega, by omega, fun z => by omega⟩
  · have b1 := a3.1
    have b2 : bgn tb pl ≠ nx := fun z => a3.2.2 (by rw [← z]; exact a2)
    have b3 : nx ≤ tc := Nat.not_lt.mp (fun z => by have := (a3.2.1 (nx - 1) (by omega) (by omega)).1; omega)
    have b4 : pl ≤ bgn tb pl := by unfold bgn; split <;> omega
    exact ⟨h1, h2, by omega, b3, fun _ => by omega⟩
  · exact ⟨h1, h2, by omega, by omega, fun _ => by omega⟩
theorem nval_b {tc : Nat} {tb : Nat → Int} {bg : Nat} : ∀ k, (∀ j, bg ≤ j → j < bg + k → dgt tc tb j) → k ≤ 3 → 0 ≤ nval tb bg k ∧ nval tb bg k ≤ (if k = 0 then 0 else if k = 1 then 9 else if k = 2 then 99 else 999)
  | 0, _, _ => by simp [nval]
  | k + 1, h, q => by
    have ih := nval_b (tc := tc) (tb := tb) (bg := bg) k (fun j h1 h2 => h j h1 (by omega)) (by omega)
    have d := h (bg + k) (by omega) (by omega)
    show 0 ≤ 10 * nval tb bg k + tb (bg + k) - 48 ∧ 10 * nval tb bg k + tb (bg + k) - 48 ≤ _
    have d1 := d.2.1
    have d2 := d.2.2
    have hk : k = 0 ∨ k = 1 ∨ k = 2 := by omega
    rcases hk with rfl | rfl | rfl <;> simp at ih d1 d2 ⊢ <;> omega
theorem Tok.v {tc : Nat} {tb : Nat → Int} {u pl nx : Nat} {cd vl : Int} (h : Tok tc tb u pl cd vl nx) (q : cd = 48) : -999 ≤ vl ∧ vl ≤ 999 := by
  obtain ⟨-, h5⟩ := h
  rcases h5 with ⟨a1, a2, a3⟩ | ⟨a1, a2, a3, a4, a5⟩ | ⟨a1, a2, a3, a4, a5⟩
  · omega
  · by_cases z : nx - bgn tb pl ≤ 3
    · have c := (a4 z).2
      have b := nval_b (tc := tc) (tb := tb) (bg := bgn tb pl) (nx - bgn tb pl) (fun j h1 h2 => a3.2.1 j h1 (by omega)) z
      have b2 : nval tb (bgn tb pl) (nx - bgn tb pl) ≤ 999 := by
        have := b.2
        split at this
        · omega
        · split at this
          · omega
          · split at this <;> omega
      rw [c]
      split <;> omega
    · have := a5 (by omega); omega
  · by_cases z : mark (tb pl)
    · have := a4 z
      rw [← this, q] at z
      unfold mark at z
      omega
    · have := a5 z; omega
/-! the class reads a token -/
def XTk (σ : SG) (u : Nat) : Prop := (σ.1 166 3).toInt = u
theorem x_digit {tc : Nat} {tb : Nat → Int} {σ : SG} (hB : uTB tc tb) (hT : TX tc tb σ) {k : Nat} {v : Int32} (hv : v.toInt = k) : uOk (m_X7_hasDigitAt σ v) (fun x s => s = σ ∧ (x = 0 ↔ ¬ dgt tc tb k)) := by
  have b := hB.1
  have k48 : ((48 : Int32)).toInt = 48 := rfl
  have k57 : ((57 : Int32)).toInt = 57 := rfl
  unfold m_X7_hasDigitAt m_X7_hasDigitAt_0 dgt
  rw [z_nv hv]
  by_cases q : tc ≤ k
  · rw [if_pos (z_le.mpr (by rw [hT.1, hv]; omega))]
    exact ok_r ⟨rfl, by simp; omega⟩
  · have ht := hT.2 k (by omega)
    refine ok_ite (fun z => absurd (z_le.mp z) (by rw [hT.1, hv]; omega)) (fun _ => ok_i (by omega) (ok_ite (fun z => ok_r ⟨rfl, ?_⟩) (fun z => ok_i (by omega) (ok_ite (fun z2 => ok_r ⟨rfl, ?_⟩) (fun z2 => ok_r ⟨rfl, ?_⟩)))))
    · rw [z_lt, ht, k48] at z; simp; omega
    · rw [z_lt, ht, k57] at z2; simp; omega
    · rw [z_lt, ht, k48] at z; rw [z_lt, ht, k57] at z2; simp; omega
/-- after a token was read -/
def XTd (σ0 σ : SG) (pl : Nat) (cd vl : Int) (nx : Nat) : Prop := fr1 166 167 σ0 σ ∧ (∀ i, i ≠ 0 → i ≠ 3 → i ≠ 4 → i ≠ 5 → σ.1 166 i = σ0.1 166 i) ∧ (σ.1 166 0).toInt = pl ∧ (σ.1 166 4).toInt = cd ∧ (σ.1 166 3).toInt = nx ∧ (cd = 48 → (σ.1 166 5).toInt = vl)
theorem x_num {tc : Nat} {tb : Nat → Int} (hB : uTB tc tb) {bg : Nat} {l2 l3 : Int32} (h3 : l3.toInt = bg) (σ0 : SG) {Q : Unit → SG → Prop}
    (kk : ∀ (nd : Nat) (σ : SG) (l4 : Int32), isNum tc tb bg nd → fr1 166 167 σ0 σ → (∀ i, i ≠ 3 → σ.1 166 i = σ0.1 166 i) → (σ.1 166 3).toInt = nd → (nd - bg ≤ 3 → l4.toInt = nval tb bg (nd - bg)) → -999 ≤ l4.toInt → l4.toInt ≤ 999 → uOk (m_X10_readNumber_91 σ l2 l3 l4) Q) :
    ∀ (d fuel k : Nat) (σ : SG) (l4 : Int32), d < fuel → k + d = tc → bg ≤ k → (∀ j, bg ≤ j → j < k → dgt tc tb j) → TX tc tb σ → fr1 166 167 σ0 σ → (∀ i, i ≠ 3 → σ.1 166 i = σ0.1 166 i) → (σ.1 166 3).toInt = k → l4.toInt = nval tb bg (if k - bg ≤ 3 then k - bg else 3) → uOk (m_X10_readNumber_26 fuel σ l2 l3 l4) Q := by
  have b := hB.1
  have kn3 : ((3 : Int32)).toInt = 3 := rfl
  have k10 : ((10 : Int32)).toInt = 10 := rfl
  have k48 : ((48 : Int32)).toInt = 48 := rfl
  intro d
  induction d with
  | zero =>
    intro fuel k σ l4 hf hr hbk hdg hT hF hO hn h4
    cases fuel with
    | zero => omega
    | succ fuel =>
      show uOk (m_X10_readNumber_26_s _ σ l2 l3 l4) Q
      unfold m_X10_readNumber_26_s
      have hnb := nval_b (tc := tc) (tb := tb) (bg := bg) (if k - bg ≤ 3 then k - bg else 3) (fun j h1 h2 => hdg j h1 (by split at h2 <;> omega)) (by split <;> omega)
      have hl : -999 ≤ l4.toInt ∧ l4.toInt ≤ 999 := by
        rw [h4]
        have := hnb.2
        split at this
        · omega
        · split at this
          · omega
          · split at this <;> omega
      refine ok_ite (fun _ => kk k σ l4 ⟨hbk, hdg, fun z => by have := z.1; omega⟩ hF hO hn (fun z => by rw [h4, if_pos z]) hl.1 hl.2) (fun q => absurd (z_le.mpr (by rw [hT.1, hn]; omega)) q)
  | succ d ih =>
    intro fuel k σ l4 hf hr hbk hdg hT hF hO hn h4
    cases fuel with
    | zero => omega
    | succ fuel =>
      show uOk (m_X10_readNumber_26_s _ σ l2 l3 l4) Q
      unfold m_X10_readNumber_26_s
      have hnb := nval_b (tc := tc) (tb := tb) (bg := bg) (if k - bg ≤ 3 then k - bg else 3) (fun j h1 h2 => hdg j h1 (by split at h2 <;> omega)) (by split <;> omega)
      have hl : 0 ≤ l4.toInt ∧ l4.toInt ≤ 999 ∧ (k - bg < 3 → l4.toInt ≤ 99) := by
        rw [h4]
        have := hnb.2
        have := hnb.1
        refine ⟨by omega, ?_, fun z => ?_⟩
        · split at hnb <;> split at this <;> (try split at this) <;> (try split at this) <;> omega
        · rw [if_pos (by omega)] at hnb ⊢
          have h9 := hnb.2
          split at h9
          · omega
          · split at h9
            · omega
            · split at h9 <;> omega
      refine ok_ite (fun q => absurd (z_le.mp q) (by rw [hT.1, hn]; omega)) (fun _ => ok_b (x_digit hB hT hn) (fun v5 s6 h5 => ?_))
      obtain ⟨rfl, h5⟩ := h5
      have nxt : ∀ l4' : Int32, dgt tc tb k → l4'.toInt = nval tb bg (if k + 1 - bg ≤ 3 then k + 1 - bg else 3) → uOk (m_X10_readNumber_78 (m_X10_readNumber_26 fuel) s6 l2 l3 l4') Q := fun l4' hd hl4 => by
        unfold m_X10_readNumber_78
        refine ok_l fun s14 e14 => ?_
        have hF14 : fr1 166 167 s6 s14 := by rw [e14]; exact fr1.rf.sI (by omega)
        exact ih fuel (k + 1) s14 l4' (by omega) (by omega) (by omega) (fun j h1 h2 => by
          by_cases e : j = k
          · rw [e]; exact hd
          · exact hdg j h1 (by omega)) ⟨by rw [hF14.1 _ _ (by omega)]; exact hT.1, fun j hj => by rw [hF14.1 _ _ (by omega)]; exact hT.2 j hj⟩ (hF.tr hF14) (fun i hi => by rw [e14, g_sI, if_neg (fun z => hi z.2)]; exact hO i hi) (by rw [e14, g_sI_s, z_add1 (by omega), hn]; rfl) hl4
      refine ok_ite (fun q => kk k s6 l4 ⟨hbk, hdg, h5.mp q⟩ hF hO hn (fun z => by rw [h4, if_pos z]) (by omega) hl.2.1) (fun q => ?_)
      have hd : dgt tc tb k := Classical.not_not.mp (fun z => q (h5.mpr z))
      have hdv := hT.2 k hd.1
      have hd1 := hd.2.1
      have hd2 := hd.2.2
      have e3 : (s6.1 166 3 - l3).toInt = (k - bg : Nat) := by rw [z_subv hn h3 (by omega) (by omega)]; omega
      rw [z_nv hn]
      refine ok_ite (fun q3 => nxt l4 hd ?_) (fun q3 => ok_i (by omega) (ok_l fun v11 e11 => nxt v11 hd ?_))
      · rw [z_le, kn3, e3] at q3
        rw [h4]
        by_cases z : k - bg = 3
        · rw [if_pos (by omega), if_neg (by omega), z]
        · rw [if_neg (by omega), if_neg (by omega)]
      · rw [z_le, kn3, e3] at q3
        have h99 := hl.2.2 (by omega)
        rw [e11, z_subv (z_addv (z_mulv k10 rfl (by omega) (by omega)) hdv (by omega) (by omega)) k48 (by omega) (by omega), h4, if_pos (by omega), if_pos (by omega), show k + 1 - bg = k - bg + 1 by omega]
        show _ = 10 * nval tb bg (k - bg) + tb (bg + (k - bg)) - 48
        rw [show bg + (k - bg) = k by omega]
theorem x_mark {σ : SG} {v : Int32} : uOk (m_X10_markOrNone σ v) (fun x s => s = σ ∧ (mark v.toInt → x = v) ∧ (¬ mark v.toInt → x = -1)) := by
  have ez : ∀ k : Int32, v = k ↔ v.toInt = k.toInt := fun k => z_eq
  unfold m_X10_markOrNone m_X10_markOrNone_0 mark
  simp only [ez]
  refine ok_ite (fun q => ok_r ⟨rfl, fun _ => rfl, fun z => absurd (Or.inl q) z⟩) (fun q1 => ok_ite (fun q => ok_r ⟨rfl, fun _ => rfl, fun z => absurd (Or.inr (Or.inl q)) z⟩) (fun q2 => ok_ite (fun q => ok_r ⟨rfl, fun _ => rfl, fun z => absurd (Or.inr (Or.inr (Or.inl q))) z⟩) (fun q3 => ok_ite (fun q => ok_r ⟨rfl, fun _ => rfl, fun z => absurd (Or.inr (Or.inr (Or.inr (Or.inl q)))) z⟩) (fun q4 => ok_ite (fun q => ok_r ⟨rfl, fun _ => rfl, fun z => absurd (Or.inr (Or.inr (Or.inr (Or.inr (Or.inl q))))) z⟩) (fun q5 => ok_ite (fun q => ok_r ⟨rfl, fun _ => rfl, fun z => absurd (Or.inr (Or.inr (Or.inr (Or.inr (Or.inr (Or.inl q)))))) z⟩) (fun q6 => ok_ite (fun q => ok_r ⟨rfl, fun _ => rfl, fun z => absurd (Or.inr (Or.inr (Or.inr (Or.inr (Or.inr (Or.inr (Or.inl q))))))) z⟩) (fun q7 => ok_ite (fun q => ok_r ⟨rfl, fun _ => rfl, fun z => absurd (Or.inr (Or.inr (Or.inr (Or.inr (Or.inr (Or.inr (Or.inr (Or.inl q)))))))) z⟩) (fun q8 => ok_ite (fun q => ok_r ⟨rfl, fun _ => rfl, fun z => absurd (Or.inr (Or.inr (Or.inr (Or.inr (Or.inr (Or.inr (Or.inr (Or.inr (Or.inl q))))))))) z⟩) (fun q9 => ok_ite (fun q => ok_r ⟨rfl, fun _ => rfl, fun z => absurd (Or.inr (Or.inr (Or.inr (Or.inr (Or.inr (Or.inr (Or.inr (Or.inr (Or.inr (Or.inl q)))))))))) z⟩) (fun q10 => ok_ite (fun q => ok_r ⟨rfl, fun _ => rfl, fun z => absurd (Or.inr (Or.inr (Or.inr (Or.inr (Or.inr (Or.inr (Or.inr (Or.inr (Or.inr (Or.inr q)))))))))) z⟩) (fun q11 => ok_r ⟨rfl, fun z => ?_, fun _ => rfl⟩)))))))))))
  rcases z with z | z | z | z | z | z | z | z | z | z | z
  · exact absurd z q1
  · exact absurd z q2
  · exact absurd z q3
  · exact absurd z q4
  · exact absurd z q5
  · exact absurd z q6
  · exact absurd z q7
  · exact absurd z q8
  · exact absurd z q9
  · exact absurd z q10
  · exact absurd z q11
theorem x_tok38 {tc : Nat} {tb : Nat → Int} {σ : SG} {u pl : Nat} (hB : uTB tc tb) (hT : TX tc tb σ) (hs : isSp tc tb u pl) (hn : (σ.1 166 3).toInt = pl) : uOk (m_X10_readToken_38 σ) (fun _ σ' => ∃ cd vl nx, Tok tc tb u pl cd vl nx ∧ XTd σ σ' pl cd vl nx) := by
  have b := hB.1
  have hpl := hs.2.1
  have k45 : ((45 : Int32)).toInt = 45 := rfl
  have k0 : ((0 : Int32)).toInt = 0 := rfl
  have kn3 : ((3 : Int32)).toInt = 3 := rfl
  unfold m_X10_readToken_38
  refine ok_l fun s6 e6 => ?_
  have hF6 : fr1 166 167 σ s6 := by rw [e6]; exact fr1.rf.sI (by omega)
  have hT6 : TX tc tb s6 := ⟨by rw [hF6.1 _ _ (by omega)]; exact hT.1, fun j hj => by rw [hF6.1 _ _ (by omega)]; exact hT.2 j hj⟩
  have hn6 : (s6.1 166 3).toInt = pl := by rw [e6, g_sI, if_neg (by omega)]; exact hn
  have hp6 : (s6.1 166 0).toInt = pl := by rw [e6, g_sI_s]; exact hn
  have ho6 : ∀ i, i ≠ 0 → s6.1 166 i = σ.1 166 i := fun i hi => by rw [e6, g_sI, if_neg (fun z => hi z.2)]
  rw [z_nv hn6]
  refine ok_ite (fun q => ok_i ?_ ?_) (fun q => ok_l fun s11 e11 => ok_r ⟨0, 0, pl, ⟨hs, Or.inl ⟨?_, rfl, rfl⟩⟩, ?_⟩)
  · rw [z_lt, hn6, hT6.1] at q; omega
  · rw [z_lt, hn6, hT6.1] at q
    have hlt : pl < tc := by omega
    have hbyte := hT6.2 pl hlt
    have m101 : ∀ (l2 s0 : Int32), (l2 = 0 ↔ ¬ tb pl = 45) → s0.toInt = bgn tb pl → uOk (m_X10_readToken_101 s6 l2 s0) (fun _ σ' => ∃ cd vl nx, Tok tc tb u pl cd vl nx ∧ XTd σ σ' pl cd vl nx) := fun l2 s0 hl2 hs0 => by
      unfold m_X10_readToken_101
      refine ok_b (x_digit hB hT6 hs0) (fun v14 s15 h14 => ?_)
      obtain ⟨rfl, h14⟩ := h14
      rw [z_nv hn6]
      refine ok_ite (fun q2 => ok_i (by omega) (ok_b x_mark (fun v19 s20 h19 => ?_))) (fun q2 => ok_b (Q := fun _ σ' => ∃ cd vl nx, Tok tc tb u pl cd vl nx ∧ XTd σ σ' pl cd vl nx) ?_ (fun _ s27 h27 => ok_r h27))
      · obtain ⟨rfl, h19, h19'⟩ := h19
        rw [hbyte] at h19 h19'
        refine ok_l fun s22 e22 => ok_l fun s24 e24 => ok_r ⟨v19.toInt, 0, pl + 1, ⟨hs, Or.inr (Or.inr ⟨hlt, h14.mp q2, rfl, fun z => by rw [h19 z]; exact hbyte, fun z => by rw [h19' z]; rfl⟩)⟩, ?_⟩
        have c22 : s22.1 166 3 = s20.1 166 3 := by rw [e22, g_sI, if_neg (by omega)]
        refine ⟨?_, fun i i0 i3 i4 i5 => ?_, ?_, ?_, ?_, fun z => ?_⟩
        · rw [e24, e22]; exact (hF6.sI (by omega)).sI (by omega)
        · rw [e24, g_sI, if_neg (fun z => i3 z.2), e22, g_sI, if_neg (fun z => i4 z.2)]; exact ho6 i i0
        · rw [e24, g_sI, if_neg (by omega), e22, g_sI, if_neg (by omega)]; exact hp6
        · rw [e24, g_sI, if_neg (by omega), e22, g_sI_s]
        · rw [e24, g_sI_s, c22, z_add1 (by omega), hn6]; rfl
        · exfalso
          by_cases y : mark (tb pl)
          · have := h19 y
            rw [this, hbyte] at z
            rw [z] at y
            unfold mark at y
            omega
          · have := h19' y
            rw [this] at z
            exact absurd z (by decide)
      · have hd : dgt tc tb (bgn tb pl) := Classical.not_not.mp (fun z => q2 (h14.mpr z))
        have hbt := hd.1
        have hbp : pl ≤ bgn tb pl := by unfold bgn; split <;> omega
        unfold m_X10_readNumber m_X10_readNumber_0
        have m17 : ∀ x : Int32, x.toInt = bgn tb pl → uOk (m_X10_readNumber_17 s15 l2 x) (fun _ σ' => ∃ cd vl nx, Tok tc tb u pl cd vl nx ∧ XTd σ σ' pl cd vl nx) := fun x hx => by
          unfold m_X10_readNumber_17
          refine ok_l fun s2 e2 => ?_
          have hF2 : fr1 166 167 s15 s2 := by rw [e2]; exact fr1.rf.sI (by omega)
          refine x_num hB hx s2 (fun nd σ' l4 hnum hF' hO' hn' hv' hlo hhi => ?_) (tc - bgn tb pl) FV (bgn tb pl) s2 0 (FV_big (by omega)) (by omega) (Nat.le_refl _) (fun j h1 h2 => by omega) ⟨by rw [hF2.1 _ _ (by omega)]; exact hT6.1, fun j hj => by rw [hF2.1 _ _ (by omega)]; exact hT6.2 j hj⟩ fr1.rf (fun _ _ => rfl) (by rw [e2, g_sI_s]; exact hx) (by rw [if_pos (by omega), Nat.sub_self]; rfl)
          have hnd : nd ≤ tc := by
            refine Nat.not_lt.mp (fun z => ?_)
            have h1 := hnum.1
            have := (hnum.2.1 (nd - 1) (by omega) (by omega)).1
            omega
          have hnb := hnum.1
          have e3 : (σ'.1 166 3 - x).toInt = (nd - bgn tb pl : Nat) := by rw [z_subv hn' hx (by omega) (by omega)]; omega
          have hres : ∀ s0 : Int32, (nd - bgn tb pl ≤ 3 → s0 = 48) → (3 < nd - bgn tb pl → s0 = -1) → uOk (m_X10_readNumber_108 σ' l2 l4 s0) (fun _ σ' => ∃ cd vl nx, Tok tc tb u pl cd vl nx ∧ XTd σ σ' pl cd vl nx) := fun s0 ha hb => by
            unfold m_X10_readNumber_108
            refine ok_l fun s16 e16 => ?_
            have base : ∀ (s : SG) (y : Int32), s = sI s16 166 5 y → (tb pl = 45 → y.toInt = -l4.toInt) → (¬ tb pl = 45 → y.toInt = l4.toInt) → ∃ cd vl nx, Tok tc tb u pl cd vl nx ∧ XTd σ s pl cd vl nx := fun s y es hy1 hy2 => by
              refine ⟨s0.toInt, y.toInt, nd, ⟨hs, Or.inr (Or.inl ⟨hlt, hd, hnum, fun z => ⟨by rw [ha z]; rfl, ?_⟩, fun z => by rw [hb z]; rfl⟩)⟩, ?_, fun i i0 i3 i4 i5 => ?_, ?_, ?_, ?_, fun _ => ?_⟩
              · by_cases w : tb pl = 45
                · rw [if_pos w, hy1 w, hv' z]
                · rw [if_neg w, hy2 w, hv' z]
              · rw [es, e16]; exact (((hF6.tr hF2).tr hF').sI (by omega)).sI (by omega)
              · rw [es, g_sI, if_neg (fun z => i5 z.2), e16, g_sI, if_neg (fun z => i4 z.2), hO' i i3, e2, g_sI, if_neg (fun z => i3 z.2)]; exact ho6 i i0
              · rw [es, g_sI, if_neg (by omega), e16, g_sI, if_neg (by omega), hO' 0 (by omega), e2, g_sI, if_neg (by omega)]; exact hp6
              · rw [es, g_sI, if_neg (by omega), e16, g_sI_s]
              · rw [es, g_sI, if_neg (by omega), e16, g_sI, if_neg (by omega)]; exact hn'
              · rw [es, g_sI_s]
            refine ok_ite (fun z => ok_l fun s19 e19 => ok_r (base s19 l4 e19 (fun w => absurd w (hl2.mp z)) (fun _ => rfl))) (fun z => ok_l fun s21 e21 => ok_r (base s21 (-l4) e21 (fun _ => z_negv rfl (by omega)) (fun w => absurd (hl2.mpr w) z)))
          unfold m_X10_readNumber_91
          refine ok_ite (fun z => hres (-1) (fun w => ?_) (fun _ => rfl)) (fun z => hres 48 (fun _ => rfl) (fun w => ?_))
          · rw [z_lt, kn3, e3] at z; omega
          · rw [z_lt, kn3, e3] at z; omega
        refine ok_ite (fun z => m17 _ ?_) (fun z => m17 _ ?_)
        · rw [hn6]; unfold bgn; rw [if_neg (hl2.mp z)]
        · have w : tb pl = 45 := Classical.not_not.mp (fun y => z (hl2.mpr y))
          rw [z_add1 (by omega), hn6]; unfold bgn; rw [if_pos w]; rfl
    have m82 : ∀ l2 : Int32, (l2 = 0 ↔ ¬ tb pl = 45) → uOk (m_X10_readToken_82 s6 l2) (fun _ σ' => ∃ cd vl nx, Tok tc tb u pl cd vl nx ∧ XTd σ σ' pl cd vl nx) := fun l2 hl2 => by
      unfold m_X10_readToken_82
      refine ok_ite (fun z => m101 l2 _ hl2 ?_) (fun z => m101 l2 _ hl2 ?_)
      · rw [hn6]; unfold bgn; rw [if_neg (hl2.mp z)]
      · have w : tb pl = 45 := Classical.not_not.mp (fun y => z (hl2.mpr y))
        rw [z_add1 (by omega), hn6]; unfold bgn; rw [if_pos w]; rfl
    refine ok_ite (fun z => m82 0 ?_) (fun z => m82 1 ?_)
    · rw [z_eq, hbyte, k45] at z; simp [z]
    · rw [z_eq, hbyte, k45, Classical.not_not] at z; simp [z]
  · rw [z_lt, hn6, hT6.1] at q; omega
  · refine ⟨by rw [e11]; exact hF6.sI (by omega), fun i i0 i3 i4 i5 => ?_, ?_, ?_, ?_, fun z => by omega⟩
    · rw [e11, g_sI, if_neg (fun z => i4 z.2)]; exact ho6 i i0
    · rw [e11, g_sI, if_neg (by omega)]; exact hp6
    · rw [e11, g_sI_s]; rfl
    · rw [e11, g_sI, if_neg (by omega)]; exact hn6
theorem x_readToken {tc : Nat} {tb : Nat → Int} {u : Nat} (hB : uTB tc tb) : ∀ (d fuel k : Nat) (σ0 σ : SG), d < fuel → k + d = tc → u ≤ k → (∀ j, u ≤ j → j < k → tb j = 32) → TX tc tb σ → fr1 166 167 σ0 σ → (∀ i, i ≠ 3 → σ.1 166 i = σ0.1 166 i) → (σ.1 166 3).toInt = k → uOk (m_X10_readToken_0 fuel σ) (fun _ σ' => ∃ pl cd vl nx, Tok tc tb u pl cd vl nx ∧ XTd σ0 σ' pl cd vl nx) := by
  have b := hB.1
  have k32 : ((32 : Int32)).toInt = 32 := rfl
  intro d
  induction d with
  | zero =>
    intro fuel k σ0 σ hf hr huk hsp hT hF hO hn
    cases fuel with
    | zero => omega
    | succ fuel =>
      show uOk (m_X10_readToken_0_s _ σ) _
      unfold m_X10_readToken_0_s
      refine ok_ite (fun _ => (x_tok38 hB hT ⟨huk, by omega, hsp, fun z => by omega⟩ hn).mono (fun _ s h => ?_)) (fun q => absurd (z_le.mpr (by rw [hT.1, hn]; omega)) q)
      obtain ⟨cd, vl, nx, h1, h2, h3, h4⟩ := h
      exact ⟨k, cd, vl, nx, h1, hF.tr h2, fun i i0 i3 i4 i5 => (h3 i i0 i3 i4 i5).trans (hO i i3), h4⟩
  | succ d ih =>
    intro fuel k σ0 σ hf hr huk hsp hT hF hO hn
    cases fuel with
    | zero => omega
    | succ fuel =>
      show uOk (m_X10_readToken_0_s _ σ) _
      unfold m_X10_readToken_0_s
      rw [z_nv hn]
      have hb := hT.2 k (by omega)
      refine ok_ite (fun q => absurd (z_le.mp q) (by rw [hT.1, hn]; omega)) (fun _ => ok_i (by omega) (ok_ite (fun q => (x_tok38 hB hT ⟨huk, by omega, hsp, fun _ => by rw [z_eq, hb, k32] at q; exact q⟩ hn).mono (fun _ s h => ?_)) (fun q => ok_l fun s4 e4 => ?_)))
      · obtain ⟨cd, vl, nx, h1, h2, h3, h4⟩ := h
        exact ⟨k, cd, vl, nx, h1, hF.tr h2, fun i i0 i3 i4 i5 => (h3 i i0 i3 i4 i5).trans (hO i i3), h4⟩
      · rw [z_eq, hb, k32, Classical.not_not] at q
        have hF4 : fr1 166 167 σ s4 := by rw [e4]; exact fr1.rf.sI (by omega)
        exact ih fuel (k + 1) σ0 s4 (by omega) (by omega) (by omega) (fun j h1 h2 => by
          by_cases e : j = k
          · rw [e]; exact q
          · exact hsp j h1 (by omega)) ⟨by rw [hF4.1 _ _ (by omega)]; exact hT.1, fun j hj => by rw [hF4.1 _ _ (by omega)]; exact hT.2 j hj⟩ (hF.tr hF4) (fun i hi => by rw [e4, g_sI, if_neg (fun z => hi z.2)]; exact hO i hi) (by rw [e4, g_sI_s, z_add1 (by omega), hn]; rfl)
theorem x_read1 {tc : Nat} {tb : Nat → Int} {u : Nat} {σ : SG} (hB : uTB tc tb) (hT : TX tc tb σ) (hn : (σ.1 166 3).toInt = u) (hu : u ≤ tc) : uOk (m_X10_readToken σ) (fun _ σ' => ∃ pl cd vl nx, Tok tc tb u pl cd vl nx ∧ XTd σ σ' pl cd vl nx) :=
  x_readToken hB (tc - u) FV u σ σ (FV_big (by have := hB.1; omega)) (by omega) (Nat.le_refl _) (fun j h1 h2 => by omega) hT fr1.rf (fun _ _ => rfl) hn
