/-! ===== class and model side by side ===== -/
def uVx (n : Nat) (c : Nat → Nat) (P L : Nat → Nat → Int) (K : Nat → Int) (tc : Nat) (t : Nat → Int) (fa : Int) (ow : Option LG) (fk : Nat) (fv : Nat → Nat → Int) (mk : Nat) (mh : Nat → Int) (σ : SG) : Prop := uNX n c P L σ ∧ KX K σ ∧ TX tc t σ ∧ FaX fa σ ∧ XWS ow σ ∧ FdX fk fv σ ∧ FmX mk mh σ
def uVm (n : Nat) (c : Nat → Nat) (P L : Nat → Nat → Int) (K : Nat → Int) (tc : Nat) (t : Nat → Int) (fa : Int) (ow : Option LG) (fk : Nat) (fv : Nat → Nat → Int) (mk : Nat) (mh : Nat → Int) (σ : SG) : Prop := uNM n c P L σ ∧ uKM K σ ∧ uTM tc t σ ∧ FaM fa σ ∧ MWS ow σ ∧ FdM fk fv σ ∧ FmM mk mh σ
def uVb (n : Nat) (c : Nat → Nat) (P L : Nat → Nat → Int) (K : Nat → Int) (tc : Nat) (t : Nat → Int) (fk mk : Nat) : Prop := NB n c P L ∧ KB K ∧ uTB tc t ∧ fk ≤ 200 ∧ mk ≤ n
def uRl (σx σm : SG) : Prop := ∃ (n : Nat) (c : Nat → Nat) (P L : Nat → Nat → Int) (K : Nat → Int) (tc : Nat) (t : Nat → Int) (fa : Int) (ow : Option LG) (fk : Nat) (fv : Nat → Nat → Int) (mk : Nat) (mh : Nat → Int), uVb n c P L K tc t fk mk ∧ uVx n c P L K tc t fa ow fk fv mk mh σx ∧ uVm n c P L K tc t fa ow fk fv mk mh σm
theorem pFind_b {n : Nat} {c : Nat → Nat} {P L : Nat → Nat → Int} {ow : Option LG} {k : Nat} {v : Nat → Nat → Int} {view : Int} (hB : NB n c P L) (hk : k ≤ 200) : (pFind n c P L ow k v view).2.1 ≤ 200 := by
  have hn := hB.1
  have hc : ∀ r, r < 8 → c r ≤ 24 := fun r hr => by have := hB.2.1 r (by omega); unfold rcap at this; split at this <;> omega
  unfold pFind
  split
  · exact hk
  · split
    · show (0 : Nat) ≤ 200; omega
    · rename_i Lw
      have := ftu_b (μ := fmu Lw c P L view.toNat) (NN := fun t => c t - two view.toNat) (fun r hr => by have := hc r hr; show c r - two view.toNat ≤ 24; omega) n (by omega)
      show (ftu (fmu Lw c P L view.toNat) (fun t => c t - two view.toNat) n).1 ≤ 200
      omega
theorem pNear_b {n : Nat} {c : Nat → Nat} {P L : Nat → Nat → Int} {K : Nat → Int} {k : Nat} {v : Nat → Nat → Int} {most S : Int} (hB : NB n c P L) (hk : k ≤ 200) : (pNear n c P L K k v most S).2.1 ≤ 200 := by
  have hn := hB.1
  have hc : ∀ r, r < 8 → c r ≤ 24 := fun r hr => by have := hB.2.1 r (by omega); unfold rcap at this; split at this <;> omega
  unfold pNear
  split
  · exact hk
  · have := ntun_b (μ := umu c P L K) (S := S.toNat) (most := most) hc n (by omega)
    show (ntun (umu c P L K) S.toNat most c n).1 ≤ 200
    omega
theorem st_0 {a b d : Int32} {σx σm : SG} (h : uRl σx σm) : ∃ σx' σm', lg_s0 a b d σx σm σx' σm' ∧ uRl σx' σm' := by
  obtain ⟨n, c, P, L, K, tc, t, fa, ow, fk, fv, mk, mh, ⟨hB, hK, hT, hf, hm⟩, ⟨x1, x2, x3, x4, x5, x6, x7⟩, ⟨m1, m2, m3, m4, m5, m6, m7⟩⟩ := h
  obtain ⟨r, sx, ex, a1, a2, a3⟩ := x_tune hB x1
  obtain ⟨r2, sm, em, b1, b2, b3⟩ := m_tune hB m1
  have er : r2 = r := z_eq.mpr (by rw [a1, b1])
  rw [er] at em
  exact ⟨sx, sm, ⟨r, ex, em⟩, _, c, P, L, K, tc, t, fa, ow, fk, fv, mk, mh, ⟨hB.tune, hK, hT, hf, by split <;> omega⟩, ⟨a2, x2.fr a3 (by decide), x3.fr a3 (by decide), x4.fr a3 (by decide), x5.fr a3 (by decide), x6.fr a3 (by decide), x7.fr a3 (by decide)⟩, ⟨b2, m2.fr b3 (by decide), m3.fr b3 (by decide), m4.fr b3 (by decide), m5.fr b3 (by decide), m6.fr b3 (by decide), m7.fr b3 (by decide)⟩⟩
theorem st_1 {a b d : Int32} {σx σm : SG} (h : uRl σx σm) : ∃ σx' σm', lg_s1 a b d σx σm σx' σm' ∧ uRl σx' σm' := by
  obtain ⟨n, c, P, L, K, tc, t, fa, ow, fk, fv, mk, mh, ⟨hB, hK, hT, hf, hm⟩, ⟨x1, x2, x3, x4, x5, x6, x7⟩, ⟨m1, m2, m3, m4, m5, m6, m7⟩⟩ := h
  obtain ⟨r, sx, ex, pa⟩ := x_note (t := a) (p := b) (l := d) hB x1
  obtain ⟨r2, sm, em, pb⟩ := m_note (t := a) (p := b) (l := d) hB m1
  by_cases q : isT n a
  · obtain ⟨a1, a2, a3⟩ := pa.1 q
    obtain ⟨b1, b2, b3⟩ := pb.1 q
    have er : r2 = r := z_eq.mpr (by rw [a1, b1])
    rw [er] at em
    have q1 := q.1
    have q2 := q.2
    exact ⟨sx, sm, ⟨r, ex, em⟩, n, _, _, _, K, tc, t, fa, ow, fk, fv, mk, mh, ⟨hB.add (Or.inl (by omega)), hK, hT, hf, hm⟩, ⟨a2, x2.fr a3 (by decide), x3.fr a3 (by decide), x4.fr a3 (by decide), x5.fr a3 (by decide), x6.fr a3 (by decide), x7.fr a3 (by decide)⟩, ⟨b2, m2.fr b3 (by decide), m3.fr b3 (by decide), m4.fr b3 (by decide), m5.fr b3 (by decide), m6.fr b3 (by decide), m7.fr b3 (by decide)⟩⟩
  · obtain ⟨a1, a2, a3⟩ := pa.2 q
    obtain ⟨b1, b2, b3⟩ := pb.2 q
    have er : r2 = r := by rw [a1, b1]
    rw [er] at em
    exact ⟨sx, sm, ⟨r, ex, em⟩, n, c, P, L, K, tc, t, fa, ow, fk, fv, mk, mh, ⟨hB, hK, hT, hf, hm⟩, ⟨a2, x2.fr a3 (by decide), x3.fr a3 (by decide), x4.fr a3 (by decide), x5.fr a3 (by decide), x6.fr a3 (by decide), x7.fr a3 (by decide)⟩, ⟨b2, m2.fr b3 (by decide), m3.fr b3 (by decide), m4.fr b3 (by decide), m5.fr b3 (by decide), m6.fr b3 (by decide), m7.fr b3 (by decide)⟩⟩
theorem st_2 {a b d : Int32} {σx σm : SG} (h : uRl σx σm) : ∃ σx' σm', lg_s2 a b d σx σm σx' σm' ∧ uRl σx' σm' := by
  obtain ⟨n, c, P, L, K, tc, t, fa, ow, fk, fv, mk, mh, ⟨hB, hK, hT, hf, hm⟩, ⟨x1, x2, x3, x4, x5, x6, x7⟩, ⟨m1, m2, m3, m4, m5, m6, m7⟩⟩ := h
  obtain ⟨r, sx, ex, a1, a2, a3⟩ := x_query (p := a) (l := b) hB x1
  obtain ⟨r2, sm, em, b1, b2, b3⟩ := m_query (p := a) (l := b) hB m1
  have er : r2 = r := z_eq.mpr (by rw [a1, b1])
  rw [er] at em
  exact ⟨sx, sm, ⟨r, ex, em⟩, n, _, _, _, K, tc, t, fa, ow, fk, fv, mk, mh, ⟨hB.add (Or.inr rfl), hK, hT, hf, hm⟩, ⟨a2, x2.fr a3 (by decide), x3.fr a3 (by decide), x4.fr a3 (by decide), x5.fr a3 (by decide), x6.fr a3 (by decide), x7.fr a3 (by decide)⟩, ⟨b2, m2.fr b3 (by decide), m3.fr b3 (by decide), m4.fr b3 (by decide), m5.fr b3 (by decide), m6.fr b3 (by decide), m7.fr b3 (by decide)⟩⟩
theorem st_3 {a b d : Int32} {σx σm : SG} (h : uRl σx σm) : ∃ σx' σm', lg_s3 a b d σx σm σx' σm' ∧ uRl σx' σm' := by
  obtain ⟨n, c, P, L, K, tc, t, fa, ow, fk, fv, mk, mh, ⟨hB, hK, hT, hf, hm⟩, ⟨x1, x2, x3, x4, x5, x6, x7⟩, ⟨m1, m2, m3, m4, m5, m6, m7⟩⟩ := h
  obtain ⟨r, sx, ex, a1, a2, a3⟩ := x_forget x1
  obtain ⟨r2, sm, em, b1, b2, b3⟩ := m_forget m1
  have er : r2 = r := z_eq.mpr (by rw [a1, b1])
  rw [er] at em
  exact ⟨sx, sm, ⟨r, ex, em⟩, n, _, P, L, K, tc, t, fa, ow, fk, fv, mk, mh, ⟨hB.forget, hK, hT, hf, hm⟩, ⟨a2, x2.fr a3 (by decide), x3.fr a3 (by decide), x4.fr a3 (by decide), x5.fr a3 (by decide), x6.fr a3 (by decide), x7.fr a3 (by decide)⟩, ⟨b2, m2.fr b3 (by decide), m3.fr b3 (by decide), m4.fr b3 (by decide), m5.fr b3 (by decide), m6.fr b3 (by decide), m7.fr b3 (by decide)⟩⟩
theorem st_4 {a b d : Int32} {σx σm : SG} (h : uRl σx σm) : ∃ σx' σm', lg_s4 a b d σx σm σx' σm' ∧ uRl σx' σm' := by
  obtain ⟨n, c, P, L, K, tc, t, fa, ow, fk, fv, mk, mh, ⟨hB, hK, hT, hf, hm⟩, ⟨x1, x2, x3, x4, x5, x6, x7⟩, ⟨m1, m2, m3, m4, m5, m6, m7⟩⟩ := h
  obtain ⟨r, sx, ex, a1, a2, a3⟩ := x_price (k := a) (v := b) x2
  obtain ⟨r2, sm, em, b1, b2, b3⟩ := m_price (k := a) (v := b) m2
  have er : r2 = r := z_eq.mpr (by rw [a1, b1])
  rw [er] at em
  exact ⟨sx, sm, ⟨r, ex, em⟩, n, c, P, L, _, tc, t, fa, ow, fk, fv, mk, mh, ⟨hB, hK.price, hT, hf, hm⟩, ⟨x1.fr a3 (by decide), a2, x3.fr a3 (by decide), x4.fr a3 (by decide), x5.fr a3 (by decide), x6.fr a3 (by decide), x7.fr a3 (by decide)⟩, ⟨m1.fr b3 (by decide), b2, m3.fr b3 (by decide), m4.fr b3 (by decide), m5.fr b3 (by decide), m6.fr b3 (by decide), m7.fr b3 (by decide)⟩⟩
theorem st_5 {a b d : Int32} {σx σm : SG} (h : uRl σx σm) : ∃ σx' σm', lg_s5 a b d σx σm σx' σm' ∧ uRl σx' σm' := by
  obtain ⟨n, c, P, L, K, tc, t, fa, ow, fk, fv, mk, mh, ⟨hB, hK, hT, hf, hm⟩, ⟨x1, x2, x3, x4, x5, x6, x7⟩, ⟨m1, m2, m3, m4, m5, m6, m7⟩⟩ := h
  obtain ⟨r, sx, ex, a1, a2, a3⟩ := x_type (w := (((a.toInt64) <<< ((32 : Int32).toInt64 &&& 63)) ||| ((b.toInt64) &&& 4294967295))) (n := d) hT x3
  obtain ⟨r2, sm, em, b1, b2, b3⟩ := m_type (w := (((a.toInt64) <<< ((32 : Int32).toInt64 &&& 63)) ||| ((b.toInt64) &&& 4294967295))) (n := d) hT m3
  have er : r2 = r := z_eq.mpr (by rw [a1, b1])
  rw [er] at em
  exact ⟨sx, sm, ⟨r, ex, em⟩, n, c, P, L, K, _, _, fa, ow, fk, fv, mk, mh, ⟨hB, hK, hT.type, hf, hm⟩, ⟨x1.fr a3 (by decide), x2.fr a3 (by decide), a2, x4.fr a3 (by decide), x5.fr a3 (by decide), x6.fr a3 (by decide), x7.fr a3 (by decide)⟩, ⟨m1.fr b3 (by decide), m2.fr b3 (by decide), b2, m4.fr b3 (by decide), m5.fr b3 (by decide), m6.fr b3 (by decide), m7.fr b3 (by decide)⟩⟩
theorem st_6 {a b d : Int32} {σx σm : SG} (h : uRl σx σm) : ∃ σx' σm', lg_s6 a b d σx σm σx' σm' ∧ uRl σx' σm' := by
  obtain ⟨n, c, P, L, K, tc, t, fa, ow, fk, fv, mk, mh, ⟨hB, hK, hT, hf, hm⟩, ⟨x1, x2, x3, x4, x5, x6, x7⟩, ⟨m1, m2, m3, m4, m5, m6, m7⟩⟩ := h
  obtain ⟨r2, sm, em, o, ho, f1, t0, g1, g2⟩ := m_word hT m3 m5
  obtain ⟨r, sx, ex, f2, t2, k1, k2⟩ := x_word hT x3 x5 ho
  have y1' := x1.fr (σ' := (sx.1, sx.2.1, σx.2.2)) f2 (by decide)
  have y1 : uNX n c P L sx := y1'
  have y2' := x2.fr (σ' := (sx.1, sx.2.1, σx.2.2)) f2 (by decide)
  have y2 : KX K sx := y2'
  have y6' := x6.fr (σ' := (sx.1, sx.2.1, σx.2.2)) f2 (by decide)
  have y6 : FdX fk fv sx := y6'
  have y7' := x7.fr (σ' := (sx.1, sx.2.1, σx.2.2)) f2 (by decide)
  have y7 : FmX mk mh sx := y7'
  cases o with
  | inl q =>
    obtain ⟨f, p⟩ := q
    obtain ⟨b1, b2, b3, b4⟩ := g1 f p rfl
    obtain ⟨a1, a3, a4⟩ := k1 f p rfl b2
    have er : r2 = r := z_eq.mpr (by rw [a1, b1])
    rw [er] at em
    exact ⟨sx, sm, ⟨r, ex, em⟩, n, c, P, L, K, 0, t, f, ow, fk, fv, mk, mh, ⟨hB, hK, ⟨by omega, fun j hj => by omega⟩, hf, hm⟩, ⟨y1, y2, ⟨t2, fun j hj => by omega⟩, a3, a4, y6, y7⟩, ⟨m1.fr f1 (by decide), m2.fr f1 (by decide), ⟨t0, fun j hj => by omega⟩, b3, b4, m6.fr f1 (by decide), m7.fr f1 (by decide)⟩⟩
  | inr q =>
    obtain ⟨A, G⟩ := q
    obtain ⟨b1, b3, b4⟩ := g2 A G rfl
    obtain ⟨a1, a3, a4⟩ := k2 A G rfl
    have er : r2 = r := z_eq.mpr (by rw [a1, b1])
    rw [er] at em
    exact ⟨sx, sm, ⟨r, ex, em⟩, n, c, P, L, K, 0, t, 0, some G, fk, fv, mk, mh, ⟨hB, hK, ⟨by omega, fun j hj => by omega⟩, hf, hm⟩, ⟨y1, y2, ⟨t2, fun j hj => by omega⟩, a3, a4, y6, y7⟩, ⟨m1.fr f1 (by decide), m2.fr f1 (by decide), ⟨t0, fun j hj => by omega⟩, b3, b4, m6.fr f1 (by decide), m7.fr f1 (by decide)⟩⟩
theorem st_7 {a b d : Int32} {σx σm : SG} (h : uRl σx σm) : ∃ σx' σm', lg_s7 a b d σx σm σx' σm' ∧ uRl σx' σm' := by
  obtain ⟨n, c, P, L, K, tc, t, fa, ow, fk, fv, mk, mh, ⟨hB, hK, hT, hf, hm⟩, ⟨x1, x2, x3, x4, x5, x6, x7⟩, ⟨m1, m2, m3, m4, m5, m6, m7⟩⟩ := h
  obtain ⟨r, sx, ex, a1, a2⟩ := x_fault x4
  obtain ⟨r2, sm, em, b1, b2⟩ := m_fault m4
  have er : r2 = r := z_eq.mpr (by rw [a1, b1])
  rw [er] at em
  have b3 : frM [11] σm sm := by rw [b2]; exact m_code
  rw [a2] at ex
  exact ⟨σx, sm, ⟨r, ex, em⟩, n, c, P, L, K, tc, t, fa, ow, fk, fv, mk, mh, ⟨hB, hK, hT, hf, hm⟩, ⟨x1, x2, x3, x4, x5, x6, x7⟩, ⟨m1.fr b3 (by decide), m2.fr b3 (by decide), m3.fr b3 (by decide), m4.fr b3 (by decide), m5.fr b3 (by decide), m6.fr b3 (by decide), m7.fr b3 (by decide)⟩⟩
theorem st_8 {a b d : Int32} {σx σm : SG} (h : uRl σx σm) : ∃ σx' σm', lg_s8 a b d σx σm σx' σm' ∧ uRl σx' σm' := by
  obtain ⟨n, c, P, L, K, tc, t, fa, ow, fk, fv, mk, mh, ⟨hB, hK, hT, hf, hm⟩, ⟨x1, x2, x3, x4, x5, x6, x7⟩, ⟨m1, m2, m3, m4, m5, m6, m7⟩⟩ := h
  obtain ⟨r, sx, ex, a1, a2, a3⟩ := x_find (p0 := a) hB x1 x5 x6
  obtain ⟨r2, sm, em, b1, b2, b3⟩ := m_find (p0 := a) hB m1 m5 m6
  have er : r2 = r := z_eq.mpr (by rw [a1, b1])
  rw [er] at em
  exact ⟨sx, sm, ⟨r, ex, em⟩, n, c, P, L, K, tc, t, fa, ow, _, _, mk, mh, ⟨hB, hK, hT, pFind_b hB hf, hm⟩, ⟨x1.fr a3 (by decide), x2.fr a3 (by decide), x3.fr a3 (by decide), x4.fr a3 (by decide), x5.fr a3 (by decide), a2, x7.fr a3 (by decide)⟩, ⟨m1.fr b3 (by decide), m2.fr b3 (by decide), m3.fr b3 (by decide), m4.fr b3 (by decide), m5.fr b3 (by decide), b2, m7.fr b3 (by decide)⟩⟩
theorem st_9 {a b d : Int32} {σx σm : SG} (h : uRl σx σm) : ∃ σx' σm', lg_s9 a b d σx σm σx' σm' ∧ uRl σx' σm' := by
  obtain ⟨n, c, P, L, K, tc, t, fa, ow, fk, fv, mk, mh, ⟨hB, hK, hT, hf, hm⟩, ⟨x1, x2, x3, x4, x5, x6, x7⟩, ⟨m1, m2, m3, m4, m5, m6, m7⟩⟩ := h
  obtain ⟨r, sx, ex, a1, a2, a3⟩ := x_near (p0 := a) (p1 := b) hB hK x1 x2 x6
  obtain ⟨r2, sm, em, b1, b2, b3⟩ := m_near (p0 := a) (p1 := b) hB hK m1 m2 m6
  have er : r2 = r := z_eq.mpr (by rw [a1, b1])
  rw [er] at em
  exact ⟨sx, sm, ⟨r, ex, em⟩, n, c, P, L, K, tc, t, fa, ow, _, _, mk, mh, ⟨hB, hK, hT, pNear_b hB hf, hm⟩, ⟨x1.fr a3 (by decide), x2.fr a3 (by decide), x3.fr a3 (by decide), x4.fr a3 (by decide), x5.fr a3 (by decide), a2, x7.fr a3 (by decide)⟩, ⟨m1.fr b3 (by decide), m2.fr b3 (by decide), m3.fr b3 (by decide), m4.fr b3 (by decide), m5.fr b3 (by decide), b2, m7.fr b3 (by decide)⟩⟩
theorem st_10 {a b d : Int32} {σx σm : SG} (h : uRl σx σm) : ∃ σx' σm', lg_s10 a b d σx σm σx' σm' ∧ uRl σx' σm' := by
  obtain ⟨n, c, P, L, K, tc, t, fa, ow, fk, fv, mk, mh, ⟨hB, hK, hT, hf, hm⟩, ⟨x1, x2, x3, x4, x5, x6, x7⟩, ⟨m1, m2, m3, m4, m5, m6, m7⟩⟩ := h
  obtain ⟨r, sx, ex, a1, a2, a3⟩ := x_found (a := a) (b := b) hf x6
  obtain ⟨r2, sm, em, b1, b2⟩ := m_found (a := a) (b := b) hf m6
  rw [a1] at ex
  by_cases q : isF fk a.toInt b.toInt
  · obtain ⟨z, e1, e2⟩ := a2 q
    obtain ⟨e3, e4⟩ := b1 q
    have er : r2 = z := z_eq.mpr (by rw [e2, e3])
    rw [er] at em
    rw [e1] at ex
    have b3 : frM [11] σm sm := by rw [e4]; exact m_code
    have k0 : m_X12_thrown sm = some (0, sm) := by
      show some (sm.1 0 0, sm) = some (0, sm)
      rw [e4, g_sI_s]
    exact ⟨σx, sm, Or.inl ⟨z, sm, ex, em, k0⟩, n, c, P, L, K, tc, t, fa, ow, fk, fv, mk, mh, ⟨hB, hK, hT, hf, hm⟩, ⟨x1, x2, x3, x4, x5, x6, x7⟩, ⟨m1.fr b3 (by decide), m2.fr b3 (by decide), m3.fr b3 (by decide), m4.fr b3 (by decide), m5.fr b3 (by decide), m6.fr b3 (by decide), m7.fr b3 (by decide)⟩⟩
  · have e1 := a3 q
    have e4 := b2 q
    rw [e1] at ex
    have b3 : frM [11] σm sm := by rw [e4]; exact m_code
    have k0 : m_X12_thrown sm = some (1, sm) := by
      show some (sm.1 0 0, sm) = some (1, sm)
      rw [e4, g_sI_s]
    exact ⟨σx, sm, Or.inr ⟨r2, sm, ex, em, k0⟩, n, c, P, L, K, tc, t, fa, ow, fk, fv, mk, mh, ⟨hB, hK, hT, hf, hm⟩, ⟨x1, x2, x3, x4, x5, x6, x7⟩, ⟨m1.fr b3 (by decide), m2.fr b3 (by decide), m3.fr b3 (by decide), m4.fr b3 (by decide), m5.fr b3 (by decide), m6.fr b3 (by decide), m7.fr b3 (by decide)⟩⟩
theorem st_11 {a b d : Int32} {σx σm : SG} (h : uRl σx σm) : ∃ σx' σm', lg_s11 a b d σx σm σx' σm' ∧ uRl σx' σm' := by
  obtain ⟨n, c, P, L, K, tc, t, fa, ow, fk, fv, mk, mh, ⟨hB, hK, hT, hf, hm⟩, ⟨x1, x2, x3, x4, x5, x6, x7⟩, ⟨m1, m2, m3, m4, m5, m6, m7⟩⟩ := h
  obtain ⟨r, sx, ex, a1, a3⟩ := x_distance (a := a) (b := b) (s := d) hB hK x1 x2
  obtain ⟨r2, sm, em, b1, b3⟩ := m_distance (a := a) (b := b) (s := d) hB hK m1 m2
  have er : r2 = r := b1.uniq a1
  rw [er] at em
  exact ⟨sx, sm, ⟨r, ex, em⟩, n, c, P, L, K, tc, t, fa, ow, fk, fv, mk, mh, ⟨hB, hK, hT, hf, hm⟩, ⟨x1.fr a3 (by decide), x2.fr a3 (by decide), x3.fr a3 (by decide), x4.fr a3 (by decide), x5.fr a3 (by decide), x6.fr a3 (by decide), x7.fr a3 (by decide)⟩, ⟨m1.fr b3 (by decide), m2.fr b3 (by decide), m3.fr b3 (by decide), m4.fr b3 (by decide), m5.fr b3 (by decide), m6.fr b3 (by decide), m7.fr b3 (by decide)⟩⟩
theorem st_12 {a b d : Int32} {σx σm : SG} (h : uRl σx σm) : ∃ σx' σm', lg_s12 a b d σx σm σx' σm' ∧ uRl σx' σm' := by
  obtain ⟨n, c, P, L, K, tc, t, fa, ow, fk, fv, mk, mh, ⟨hB, hK, hT, hf, hm⟩, ⟨x1, x2, x3, x4, x5, x6, x7⟩, ⟨m1, m2, m3, m4, m5, m6, m7⟩⟩ := h
  obtain ⟨r, sx, ex, a1, a3⟩ := x_freight (a := a) (b := b) hB hK x1 x2
  obtain ⟨r2, sm, em, b1, b3⟩ := m_freight (a := a) (b := b) hB hK m1 m2
  have er : r2 = r := b1.uniq a1
  rw [er] at em
  exact ⟨sx, sm, ⟨r, ex, em⟩, n, c, P, L, K, tc, t, fa, ow, fk, fv, mk, mh, ⟨hB, hK, hT, hf, hm⟩, ⟨x1.fr a3 (by decide), x2.fr a3 (by decide), x3.fr a3 (by decide), x4.fr a3 (by decide), x5.fr a3 (by decide), x6.fr a3 (by decide), x7.fr a3 (by decide)⟩, ⟨m1.fr b3 (by decide), m2.fr b3 (by decide), m3.fr b3 (by decide), m4.fr b3 (by decide), m5.fr b3 (by decide), m6.fr b3 (by decide), m7.fr b3 (by decide)⟩⟩
theorem st_13 {a b d : Int32} {σx σm : SG} (h : uRl σx σm) : ∃ σx' σm', lg_s13 a b d σx σm σx' σm' ∧ uRl σx' σm' := by
  obtain ⟨n, c, P, L, K, tc, t, fa, ow, fk, fv, mk, mh, ⟨hB, hK, hT, hf, hm⟩, ⟨x1, x2, x3, x4, x5, x6, x7⟩, ⟨m1, m2, m3, m4, m5, m6, m7⟩⟩ := h
  obtain ⟨r, sx, ex, a1, a3⟩ := x_share (a := a) (b := b) hB hK x1 x2
  obtain ⟨r2, sm, em, b1, b3⟩ := m_share (a := a) (b := b) hB hK m1 m2
  have rel : uRl sx sm := ⟨n, c, P, L, K, tc, t, fa, ow, fk, fv, mk, mh, ⟨hB, hK, hT, hf, hm⟩, ⟨x1.fr a3 (by decide), x2.fr a3 (by decide), x3.fr a3 (by decide), x4.fr a3 (by decide), x5.fr a3 (by decide), x6.fr a3 (by decide), x7.fr a3 (by decide)⟩, ⟨m1.fr b3 (by decide), m2.fr b3 (by decide), m3.fr b3 (by decide), m4.fr b3 (by decide), m5.fr b3 (by decide), m6.fr b3 (by decide), m7.fr b3 (by decide)⟩⟩
  have kt : m_X12_thrown sm = some (sm.1 0 0, sm) := rfl
  rcases a1 with ⟨p1, p2⟩ | ⟨p1, p2, p3⟩ | ⟨p1, p2, f, u, p3, p4, p5⟩
  · rcases b1 with ⟨q1, q2⟩ | ⟨q1, q2, q3⟩ | ⟨q1, q2, q3, q4⟩
    · rw [p2] at ex; rw [q2] at kt
      exact ⟨sx, sm, Or.inr (Or.inl ⟨r2, sm, ex, em, kt⟩), rel⟩
    · exact absurd q1 p1
    · exact absurd q1 p1
  · rcases b1 with ⟨q1, q2⟩ | ⟨q1, q2, q3⟩ | ⟨q1, q2, q3, q4⟩
    · exact absurd p1 q1
    · rw [p3] at ex; rw [q3] at kt
      exact ⟨sx, sm, Or.inr (Or.inr ⟨r2, sm, ex, em, kt⟩), rel⟩
    · exact absurd p2 q2
  · rcases b1 with ⟨q1, q2⟩ | ⟨q1, q2, q3⟩ | ⟨q1, q2, q3, f', u', q4, q5, q6⟩
    · exact absurd p1 q1
    · exact absurd q2 p2
    · have e1 : f' = f := Int64.toInt_inj.mp (q4.uniq p3)
      have e2 : u' = u := Int64.toInt_inj.mp (by rw [q5, p4])
      rw [q6, e1, e2] at em
      rw [p5] at ex; rw [q3] at kt
      exact ⟨sx, sm, Or.inl ⟨_, sm, ex, em, kt⟩, rel⟩
theorem st_14 {a b d : Int32} {σx σm : SG} (h : uRl σx σm) : ∃ σx' σm', lg_s14 a b d σx σm σx' σm' ∧ uRl σx' σm' := by
  obtain ⟨n, c, P, L, K, tc, t, fa, ow, fk, fv, mk, mh, ⟨hB, hK, hT, hf, hm⟩, ⟨x1, x2, x3, x4, x5, x6, x7⟩, ⟨m1, m2, m3, m4, m5, m6, m7⟩⟩ := h
  obtain ⟨r, sx, ex, a3, a1, a2⟩ := x_families (p0 := a) hB hK x1 x2 x7
  obtain ⟨r2, sm, em, b3, b1, b2⟩ := m_families (p0 := a) hB hK m1 m2 m7
  by_cases q : a.toInt < 0
  · obtain ⟨e1, e2⟩ := a1 q
    obtain ⟨e3, e4⟩ := b1 q
    have er : r2 = r := by rw [e1, e3]
    rw [er] at em
    exact ⟨sx, sm, ⟨r, ex, em⟩, n, c, P, L, K, tc, t, fa, ow, fk, fv, mk, mh, ⟨hB, hK, hT, hf, hm⟩, ⟨x1.fr a3 (by decide), x2.fr a3 (by decide), x3.fr a3 (by decide), x4.fr a3 (by decide), x5.fr a3 (by decide), x6.fr a3 (by decide), e2⟩, ⟨m1.fr b3 (by decide), m2.fr b3 (by decide), m3.fr b3 (by decide), m4.fr b3 (by decide), m5.fr b3 (by decide), m6.fr b3 (by decide), e4⟩⟩
  · obtain ⟨f, e1, e2, e3⟩ := a2 (by omega)
    obtain ⟨g, e4, e5, e6⟩ := b2 (by omega)
    have fg : ∀ t, t < n → g t = f t := e4.uniq e1
    have er : r2 = r := z_eq.mpr (by rw [e2, e5, fixN_eq n fg])
    rw [er] at em
    have e7 : FmM n (fun t => (f t : Int)) sm := ⟨e6.1, fun t ht => (e6.2 t ht).trans (by show ((g t : Nat) : Int) = (f t : Nat); rw [fg t ht])⟩
    exact ⟨sx, sm, ⟨r, ex, em⟩, n, c, P, L, K, tc, t, fa, ow, fk, fv, n, _, ⟨hB, hK, hT, hf, Nat.le_refl _⟩, ⟨x1.fr a3 (by decide), x2.fr a3 (by decide), x3.fr a3 (by decide), x4.fr a3 (by decide), x5.fr a3 (by decide), x6.fr a3 (by decide), e3⟩, ⟨m1.fr b3 (by decide), m2.fr b3 (by decide), m3.fr b3 (by decide), m4.fr b3 (by decide), m5.fr b3 (by decide), m6.fr b3 (by decide), e7⟩⟩
theorem st_15 {a b d : Int32} {σx σm : SG} (h : uRl σx σm) : ∃ σx' σm', lg_s15 a b d σx σm σx' σm' ∧ uRl σx' σm' := by
  obtain ⟨n, c, P, L, K, tc, t, fa, ow, fk, fv, mk, mh, ⟨hB, hK, hT, hf, hm⟩, ⟨x1, x2, x3, x4, x5, x6, x7⟩, ⟨m1, m2, m3, m4, m5, m6, m7⟩⟩ := h
  obtain ⟨r, sx, ex, a1, a2⟩ := x_family (t := a) hB.1 hm x1 x7
  obtain ⟨r2, sm, em, b1, b2⟩ := m_family (t := a) (Nat.le_trans hm hB.1) m7
  have er : r2 = r := z_eq.mpr (by rw [a1, b1])
  rw [er] at em
  have b3 : frM [11] σm sm := by rw [b2]; exact m_code
  rw [a2] at ex
  exact ⟨σx, sm, ⟨r, ex, em⟩, n, c, P, L, K, tc, t, fa, ow, fk, fv, mk, mh, ⟨hB, hK, hT, hf, hm⟩, ⟨x1, x2, x3, x4, x5, x6, x7⟩, ⟨m1.fr b3 (by decide), m2.fr b3 (by decide), m3.fr b3 (by decide), m4.fr b3 (by decide), m5.fr b3 (by decide), m6.fr b3 (by decide), m7.fr b3 (by decide)⟩⟩
theorem st_16 {a b d : Int32} {σx σm : SG} (h : uRl σx σm) : ∃ σx' σm', lg_s16 a b d σx σm σx' σm' ∧ uRl σx' σm' := by
  obtain ⟨n, c, P, L, K, tc, t, fa, ow, fk, fv, mk, mh, ⟨hB, hK, hT, hf, hm⟩, ⟨x1, x2, x3, x4, x5, x6, x7⟩, ⟨m1, m2, m3, m4, m5, m6, m7⟩⟩ := h
  obtain ⟨r, sx, ex, a1, a2⟩ := x_told (w := a) hB x1 x3 x6
  obtain ⟨r2, sm, em, b1, b2⟩ := m_told (w := a) hB m1 m3 m6
  have er : r2 = r := z_eq.mpr (by rw [a1, b1])
  rw [er] at em
  have b3 : frM [11] σm sm := by rw [b2]; exact m_code
  rw [a2] at ex
  exact ⟨σx, sm, ⟨r, ex, em⟩, n, c, P, L, K, tc, t, fa, ow, fk, fv, mk, mh, ⟨hB, hK, hT, hf, hm⟩, ⟨x1, x2, x3, x4, x5, x6, x7⟩, ⟨m1.fr b3 (by decide), m2.fr b3 (by decide), m3.fr b3 (by decide), m4.fr b3 (by decide), m5.fr b3 (by decide), m6.fr b3 (by decide), m7.fr b3 (by decide)⟩⟩
theorem uRl.step {w a b d : Int32} {σx σm : SG} (h : uRl σx σm) : ∃ σx' σm', lg_step w a b d σx σm σx' σm' ∧ uRl σx' σm' := by
  by_cases q0 : w = 0
  · obtain ⟨x, m, h1, h2⟩ := st_0 (a := a) (b := b) (d := d) h
    exact ⟨x, m, ⟨fun _ => h1, fun e => absurd (q0.symm.trans e) (by decide), fun e => absurd (q0.symm.trans e) (by decide), fun e => absurd (q0.symm.trans e) (by decide), fun e => absurd (q0.symm.trans e) (by decide), fun e => absurd (q0.symm.trans e) (by decide), fun e => absurd (q0.symm.trans e) (by decide), fun e => absurd (q0.symm.trans e) (by decide), fun e => absurd (q0.symm.trans e) (by decide), fun e => absurd (q0.symm.trans e) (by decide), fun e => absurd (q0.symm.trans e) (by decide), fun e => absurd (q0.symm.trans e) (by decide), fun e => absurd (q0.symm.trans e) (by decide), fun e => absurd (q0.symm.trans e) (by decide), fun e => absurd (q0.symm.trans e) (by decide), fun e => absurd (q0.symm.trans e) (by decide), fun e => absurd (q0.symm.trans e) (by decide), fun e => absurd e (by rw [q0]; decide)⟩, h2⟩
  by_cases q1 : w = 1
  · obtain ⟨x, m, h1, h2⟩ := st_1 (a := a) (b := b) (d := d) h
    exact ⟨x, m, ⟨fun e => absurd (q1.symm.trans e) (by decide), fun _ => h1, fun e => absurd (q1.symm.trans e) (by decide), fun e => absurd (q1.symm.trans e) (by decide), fun e => absurd (q1.symm.trans e) (by decide), fun e => absurd (q1.symm.trans e) (by decide), fun e => absurd (q1.symm.trans e) (by decide), fun e => absurd (q1.symm.trans e) (by decide), fun e => absurd (q1.symm.trans e) (by decide), fun e => absurd (q1.symm.trans e) (by decide), fun e => absurd (q1.symm.trans e) (by decide), fun e => absurd (q1.symm.trans e) (by decide), fun e => absurd (q1.symm.trans e) (by decide), fun e => absurd (q1.symm.trans e) (by decide), fun e => absurd (q1.symm.trans e) (by decide), fun e => absurd (q1.symm.trans e) (by decide), fun e => absurd (q1.symm.trans e) (by decide), fun e => absurd e (by rw [q1]; decide)⟩, h2⟩
  by_cases q2 : w = 2
  · obtain ⟨x, m, h1, h2⟩ := st_2 (a := a) (b := b) (d := d) h
    exact ⟨x, m, ⟨fun e => absurd (q2.symm.trans e) (by decide), fun e => absurd (q2.symm.trans e) (by decide), fun _ => h1, fun e => absurd (q2.symm.trans e) (by decide), fun e => absurd (q2.symm.trans e) (by decide), fun e => absurd (q2.symm.trans e) (by decide), fun e => absurd (q2.symm.trans e) (by decide), fun e => absurd (q2.symm.trans e) (by decide), fun e => absurd (q2.symm.trans e) (by decide), fun e => absurd (q2.symm.trans e) (by decide), fun e => absurd (q2.symm.trans e) (by decide), fun e => absurd (q2.symm.trans e) (by decide), fun e => absurd (q2.symm.trans e) (by decide), fun e => absurd (q2.symm.trans e) (by decide), fun e => absurd (q2.symm.trans e) (by decide), fun e => absurd (q2.symm.trans e) (by decide), fun e => absurd (q2.symm.trans e) (by decide), fun e => absurd e (by rw [q2]; decide)⟩, h2⟩
  by_cases q3 : w = 3
  · obtain ⟨x, m, h1, h2⟩ := st_3 (a := a) (b := b) (d := d) h
    exact ⟨x, m, ⟨fun e => absurd (q3.symm.trans e) (by decide), fun e => absurd (q3.symm.trans e) (by decide), fun e => absurd (q3.symm.trans e) (by decide), fun _ => h1, fun e => absurd (q3.symm.trans e) (by decide), fun e => absurd (q3.symm.trans e) (by decide), fun e => absurd (q3.symm.trans e) (by decide), fun e => absurd (q3.symm.trans e) (by decide), fun e => absurd (q3.symm.trans e) (by decide), fun e => absurd (q3.symm.trans e) (by decide), fun e => absurd (q3.symm.trans e) (by decide), fun e => absurd (q3.symm.trans e) (by decide), fun e => absurd (q3.symm.trans e) (by decide), fun e => absurd (q3.symm.trans e) (by decide), fun e => absurd (q3.symm.trans e) (by decide), fun e => absurd (q3.symm.trans e) (by decide), fun e => absurd (q3.symm.trans e) (by decide), fun e => absurd e (by rw [q3]; decide)⟩, h2⟩
  by_cases q4 : w = 4
  · obtain ⟨x, m, h1, h2⟩ := st_4 (a := a) (b := b) (d := d) h
    exact ⟨x, m, ⟨fun e => absurd (q4.symm.trans e) (by decide), fun e => absurd (q4.symm.trans e) (by decide), fun e => absurd (q4.symm.trans e) (by decide), fun e => absurd (q4.symm.trans e) (by decide), fun _ => h1, fun e => absurd (q4.symm.trans e) (by decide), fun e => absurd (q4.symm.trans e) (by decide), fun e => absurd (q4.symm.trans e) (by decide), fun e => absurd (q4.symm.trans e) (by decide), fun e => absurd (q4.symm.trans e) (by decide), fun e => absurd (q4.symm.trans e) (by decide), fun e => absurd (q4.symm.trans e) (by decide), fun e => absurd (q4.symm.trans e) (by decide), fun e => absurd (q4.symm.trans e) (by decide), fun e => absurd (q4.symm.trans e) (by decide), fun e => absurd (q4.symm.trans e) (by decide), fun e => absurd (q4.symm.trans e) (by decide), fun e => absurd e (by rw [q4]; decide)⟩, h2⟩
  by_cases q5 : w = 5
  · obtain ⟨x, m, h1, h2⟩ := st_5 (a := a) (b := b) (d := d) h
    exact ⟨x, m, ⟨fun e => absurd (q5.symm.trans e) (by decide), fun e => absurd (q5.symm.trans e) (by decide), fun e => absurd (q5.symm.trans e) (by decide), fun e => absurd (q5.symm.trans e) (by decide), fun e => absurd (q5.symm.trans e) (by decide), fun _ => h1, fun e => absurd (q5.symm.trans e) (by decide), fun e => absurd (q5.symm.trans e) (by decide), fun e => absurd (q5.symm.trans e) (by decide), fun e => absurd (q5.symm.trans e) (by decide), fun e => absurd (q5.symm.trans e) (by decide), fun e => absurd (q5.symm.trans e) (by decide), fun e => absurd (q5.symm.trans e) (by decide), fun e => absurd (q5.symm.trans e) (by decide), fun e => absurd (q5.symm.trans e) (by decide), fun e => absurd (q5.symm.trans e) (by decide), fun e => absurd (q5.symm.trans e) (by decide), fun e => absurd e (by rw [q5]; decide)⟩, h2⟩
  by_cases q6 : w = 6
  · obtain ⟨x, m, h1, h2⟩ := st_6 (a := a) (b := b) (d := d) h
    exact ⟨x, m, ⟨fun e => absurd (q6.symm.trans e) (by decide), fun e => absurd (q6.symm.trans e) (by decide), fun e => absurd (q6.symm.trans e) (by decide), fun e => absurd (q6.symm.trans e) (by decide), fun e => absurd (q6.symm.trans e) (by decide), fun e => absurd (q6.symm.trans e) (by decide), fun _ => h1, fun e => absurd (q6.symm.trans e) (by decide), fun e => absurd (q6.symm.trans e) (by decide), fun e => absurd (q6.symm.trans e) (by decide), fun e => absurd (q6.symm.trans e) (by decide), fun e => absurd (q6.symm.trans e) (by decide), fun e => absurd (q6.symm.trans e) (by decide), fun e => absurd (q6.symm.trans e) (by decide), fun e => absurd (q6.symm.trans e) (by decide), fun e => absurd (q6.symm.trans e) (by decide), fun e => absurd (q6.symm.trans e) (by decide), fun e => absurd e (by rw [q6]; decide)⟩, h2⟩
  by_cases q7 : w = 7
  · obtain ⟨x, m, h1, h2⟩ := st_7 (a := a) (b := b) (d := d) h
    exact ⟨x, m, ⟨fun e => absurd (q7.symm.trans e) (by decide), fun e => absurd (q7.symm.trans e) (by decide), fun e => absurd (q7.symm.trans e) (by decide), fun e => absurd (q7.symm.trans e) (by decide), fun e => absurd (q7.symm.trans e) (by decide), fun e => absurd (q7.symm.trans e) (by decide), fun e => absurd (q7.symm.trans e) (by decide), fun _ => h1, fun e => absurd (q7.symm.trans e) (by decide), fun e => absurd (q7.symm.trans e) (by decide), fun e => absurd (q7.symm.trans e) (by decide), fun e => absurd (q7.symm.trans e) (by decide), fun e => absurd (q7.symm.trans e) (by decide), fun e => absurd (q7.symm.trans e) (by decide), fun e => absurd (q7.symm.trans e) (by decide), fun e => absurd (q7.symm.trans e) (by decide), fun e => absurd (q7.symm.trans e) (by decide), fun e => absurd e (by rw [q7]; decide)⟩, h2⟩
  by_cases q8 : w = 8
  · obtain ⟨x, m, h1, h2⟩ := st_8 (a := a) (b := b) (d := d) h
    exact ⟨x, m, ⟨fun e => absurd (q8.symm.trans e) (by decide), fun e => absurd (q8.symm.trans e) (by decide), fun e => absurd (q8.symm.trans e) (by decide), fun e => absurd (q8.symm.trans e) (by decide), fun e => absurd (q8.symm.trans e) (by decide), fun e => absurd (q8.symm.trans e) (by decide), fun e => absurd (q8.symm.trans e) (by decide), fun e => absurd (q8.symm.trans e) (by decide), fun _ => h1, fun e => absurd (q8.symm.trans e) (by decide), fun e => absurd (q8.symm.trans e) (by decide), fun e => absurd (q8.symm.trans e) (by decide), fun e => absurd (q8.symm.trans e) (by decide), fun e => absurd (q8.symm.trans e) (by decide), fun e => absurd (q8.symm.trans e) (by decide), fun e => absurd (q8.symm.trans e) (by decide), fun e => absurd (q8.symm.trans e) (by decide), fun e => absurd e (by rw [q8]; decide)⟩, h2⟩
  by_cases q9 : w = 9
  · obtain ⟨x, m, h1, h2⟩ := st_9 (a := a) (b := b) (d := d) h
    exact ⟨x, m, ⟨fun e => absurd (q9.symm.trans e) (by decide), fun e => absurd (q9.symm.trans e) (by decide), fun e => absurd (q9.symm.trans e) (by decide), fun e => absurd (q9.symm.trans e) (by decide), fun e => absurd (q9.symm.trans e) (by decide), fun e => absurd (q9.symm.trans e) (by decide), fun e => absurd (q9.symm.trans e) (by decide), fun e => absurd (q9.symm.trans e) (by decide), fun e => absurd (q9.symm.trans e) (by decide), fun _ => h1, fun e => absurd (q9.symm.trans e) (by decide), fun e => absurd (q9.symm.trans e) (by decide), fun e => absurd (q9.symm.trans e) (by decide), fun e => absurd (q9.symm.trans e) (by decide), fun e => absurd (q9.symm.trans e) (by decide), fun e => absurd (q9.symm.trans e) (by decide), fun e => absurd (q9.symm.trans e) (by decide), fun e => absurd e (by rw [q9]; decide)⟩, h2⟩
  by_cases q10 : w = 10
  · obtain ⟨x, m, h1, h2⟩ := st_10 (a := a) (b := b) (d := d) h
    exact ⟨x, m, ⟨fun e => absurd (q10.symm.trans e) (by decide), fun e => absurd (q10.symm.trans e) (by decide), fun e => absurd (q10.symm.trans e) (by decide), fun e => absurd (q10.symm.trans e) (by decide), fun e => absurd (q10.symm.trans e) (by decide), fun e => absurd (q10.symm.trans e) (by decide), fun e => absurd (q10.symm.trans e) (by decide), fun e => absurd (q10.symm.trans e) (by decide), fun e => absurd (q10.symm.trans e) (by decide), fun e => absurd (q10.symm.trans e) (by decide), fun _ => h1, fun e => absurd (q10.symm.trans e) (by decide), fun e => absurd (q10.symm.trans e) (by decide), fun e => absurd (q10.symm.trans e) (by decide), fun e => absurd (q10.symm.trans e) (by decide), fun e => absurd (q10.symm.trans e) (by decide), fun e => absurd (q10.symm.trans e) (by decide), fun e => absurd e (by rw [q10]; decide)⟩, h2⟩
  by_cases q11 : w = 11
  · obtain ⟨x, m, h1, h2⟩ := st_11 (a := a) (b := b) (d := d) h
    exact ⟨x, m, ⟨fun e => absurd (q11.symm.trans e) (by decide), fun e => absurd (q11.symm.trans e) (by decide), fun e => absurd (q11.symm.trans e) (by decide), fun e => absurd (q11.symm.trans e) (by decide), fun e => absurd (q11.symm.trans e) (by decide), fun e => absurd (q11.symm.trans e) (by decide), fun e => absurd (q11.symm.trans e) (by decide), fun e => absurd (q11.symm.trans e) (by decide), fun e => absurd (q11.symm.trans e) (by decide), fun e => absurd (q11.symm.trans e) (by decide), fun e => absurd (q11.symm.trans e) (by decide), fun _ => h1, fun e => absurd (q11.symm.trans e) (by decide), fun e => absurd (q11.symm.trans e) (by decide), fun e => absurd (q11.symm.trans e) (by decide), fun e => absurd (q11.symm.trans e) (by decide), fun e => absurd (q11.symm.trans e) (by decide), fun e => absurd e (by rw [q11]; decide)⟩, h2⟩
  by_cases q12 : w = 12
  · obtain ⟨x, m, h1, h2⟩ := st_12 (a := a) (b := b) (d := d) h
    exact ⟨x, m, ⟨fun e => absurd (q12.symm.trans e) (by decide), fun e => absurd (q12.symm.trans e) (by decide), fun e => absurd (q12.symm.trans e) (by decide), fun e => absurd (q12.symm.trans e) (by decide), fun e => absurd (q12.symm.trans e) (by decide), fun e => absurd (q12.symm.trans e) (by decide), fun e => absurd (q12.symm.trans e) (by decide), fun e => absurd (q12.symm.trans e) (by decide), fun e => absurd (q12.symm.trans e) (by decide), fun e => absurd (q12.symm.trans e) (by decide), fun e => absurd (q12.symm.trans e) (by decide), fun e => absurd (q12.symm.trans e) (by decide), fun _ => h1, fun e => absurd (q12.symm.trans e) (by decide), fun e => absurd (q12.symm.trans e) (by decide), fun e => absurd (q12.symm.trans e) (by decide), fun e => absurd (q12.symm.trans e) (by decide), fun e => absurd e (by rw [q12]; decide)⟩, h2⟩
  by_cases q13 : w = 13
  · obtain ⟨x, m, h1, h2⟩ := st_13 (a := a) (b := b) (d := d) h
    exact ⟨x, m, ⟨fun e => absurd (q13.symm.trans e) (by decide), fun e => absurd (q13.symm.trans e) (by decide), fun e => absurd (q13.symm.trans e) (by decide), fun e => absurd (q13.symm.trans e) (by decide), fun e => absurd (q13.symm.trans e) (by decide), fun e => absurd (q13.symm.trans e) (by decide), fun e => absurd (q13.symm.trans e) (by decide), fun e => absurd (q13.symm.trans e) (by decide), fun e => absurd (q13.symm.trans e) (by decide), fun e => absurd (q13.symm.trans e) (by decide), fun e => absurd (q13.symm.trans e) (by decide), fun e => absurd (q13.symm.trans e) (by decide), fun e => absurd (q13.symm.trans e) (by decide), fun _ => h1, fun e => absurd (q13.symm.trans e) (by decide), fun e => absurd (q13.symm.trans e) (by decide), fun e => absurd (q13.symm.trans e) (by decide), fun e => absurd e (by rw [q13]; decide)⟩, h2⟩
  by_cases q14 : w = 14
  · obtain ⟨x, m, h1, h2⟩ := st_14 (a := a) (b := b) (d := d) h
    exact ⟨x, m, ⟨fun e => absurd (q14.symm.trans e) (by decide), fun e => absurd (q14.symm.trans e) (by decide), fun e => absurd (q14.symm.trans e) (by decide), fun e => absurd (q14.symm.trans e) (by decide), fun e => absurd (q14.symm.trans e) (by decide), fun e => absurd (q14.symm.trans e) (by decide), fun e => absurd (q14.symm.trans e) (by decide), fun e => absurd (q14.symm.trans e) (by decide), fun e => absurd (q14.symm.trans e) (by decide), fun e => absurd (q14.symm.trans e) (by decide), fun e => absurd (q14.symm.trans e) (by decide), fun e => absurd (q14.symm.trans e) (by decide), fun e => absurd (q14.symm.trans e) (by decide), fun e => absurd (q14.symm.trans e) (by decide), fun _ => h1, fun e => absurd (q14.symm.trans e) (by decide), fun e => absurd (q14.symm.trans e) (by decide), fun e => absurd e (by rw [q14]; decide)⟩, h2⟩
  by_cases q15 : w = 15
  · obtain ⟨x, m, h1, h2⟩ := st_15 (a := a) (b := b) (d := d) h
    exact ⟨x, m, ⟨fun e => absurd (q15.symm.trans e) (by decide), fun e => absurd (q15.symm.trans e) (by decide), fun e => absurd (q15.symm.trans e) (by decide), fun e => absurd (q15.symm.trans e) (by decide), fun e => absurd (q15.symm.trans e) (by decide), fun e => absurd (q15.symm.trans e) (by decide), fun e => absurd (q15.symm.trans e) (by decide), fun e => absurd (q15.symm.trans e) (by decide), fun e => absurd (q15.symm.trans e) (by decide), fun e => absurd (q15.symm.trans e) (by decide), fun e => absurd (q15.symm.trans e) (by decide), fun e => absurd (q15.symm.trans e) (by decide), fun e => absurd (q15.symm.trans e) (by decide), fun e => absurd (q15.symm.trans e) (by decide), fun e => absurd (q15.symm.trans e) (by decide), fun _ => h1, fun e => absurd (q15.symm.trans e) (by decide), fun e => absurd e (by rw [q15]; decide)⟩, h2⟩
  by_cases q16 : w = 16
  · obtain ⟨x, m, h1, h2⟩ := st_16 (a := a) (b := b) (d := d) h
    exact ⟨x, m, ⟨fun e => absurd (q16.symm.trans e) (by decide), fun e => absurd (q16.symm.trans e) (by decide), fun e => absurd (q16.symm.trans e) (by decide), fun e => absurd (q16.symm.trans e) (by decide), fun e => absurd (q16.symm.trans e) (by decide), fun e => absurd (q16.symm.trans e) (by decide), fun e => absurd (q16.symm.trans e) (by decide), fun e => absurd (q16.symm.trans e) (by decide), fun e => absurd (q16.symm.trans e) (by decide), fun e => absurd (q16.symm.trans e) (by decide), fun e => absurd (q16.symm.trans e) (by decide), fun e => absurd (q16.symm.trans e) (by decide), fun e => absurd (q16.symm.trans e) (by decide), fun e => absurd (q16.symm.trans e) (by decide), fun e => absurd (q16.symm.trans e) (by decide), fun e => absurd (q16.symm.trans e) (by decide), fun _ => h1, fun e => absurd e (by rw [q16]; decide)⟩, h2⟩
  exact ⟨σx, σm, ⟨fun e => absurd e q0, fun e => absurd e q1, fun e => absurd e q2, fun e => absurd e q3, fun e => absurd e q4, fun e => absurd e q5, fun e => absurd e q6, fun e => absurd e q7, fun e => absurd e q8, fun e => absurd e q9, fun e => absurd e q10, fun e => absurd e q11, fun e => absurd e q12, fun e => absurd e q13, fun e => absurd e q14, fun e => absurd e q15, fun e => absurd e q16, fun _ => ⟨rfl, rfl⟩⟩, h⟩
