/-! ===== words: languages over rows of signs, and automata of positions ===== -/
/-- what a word stands for: from place i to place j of the N signs sg -/
abbrev LG : Type := (Nat → Int) → Nat → Nat → Nat → Prop
/-- a run that takes the sign i at the position x and, n steps later, the sign j at y -/
def Rp (fit : Nat → Int → Prop) (Fl : Nat → Nat → Prop) (sg : Nat → Int) (N : Nat) : Nat → Nat → Nat → Nat → Nat → Prop
  | 0, x, i, y, j => y = x ∧ j = i ∧ i < N ∧ fit x (sg i)
  | n + 1, x, i, y, j => ∃ z j', Rp fit Fl sg N n x i z j' ∧ j = j' + 1 ∧ Fl z y ∧ j < N ∧ fit y (sg j)
def Run (fit : Nat → Int → Prop) (Fl : Nat → Nat → Prop) (sg : Nat → Int) (N x i y j : Nat) : Prop := ∃ n, Rp fit Fl sg N n x i y j
def AccG (fit : Nat → Int → Prop) (Fl : Nat → Nat → Prop) (E : Prop) (F L : Nat → Prop) : LG := fun sg N i j => (i = j ∧ E) ∨ ∃ x y j', F x ∧ L y ∧ Run fit Fl sg N x i y j' ∧ j = j' + 1
theorem Run.one {fit : Nat → Int → Prop} {Fl : Nat → Nat → Prop} {sg : Nat → Int} {N x i : Nat} (h : i < N) (q : fit x (sg i)) : Run fit Fl sg N x i x i := ⟨0, rfl, rfl, h, q⟩
theorem Run.snoc {fit : Nat → Int → Prop} {Fl : Nat → Nat → Prop} {sg : Nat → Int} {N x i z y j : Nat} (h : Run fit Fl sg N x i z j) (e : Fl z y) (hj : j + 1 < N) (q : fit y (sg (j + 1))) : Run fit Fl sg N x i y (j + 1) := by
  obtain ⟨n, h⟩ := h
  exact ⟨n + 1, z, j, h, rfl, e, hj, q⟩
theorem Run.b {fit : Nat → Int → Prop} {Fl : Nat → Nat → Prop} {sg : Nat → Int} {N x i y j : Nat} (h : Run fit Fl sg N x i y j) : i ≤ j ∧ j < N ∧ fit y (sg j) ∧ fit x (sg i) := by
  obtain ⟨n, h⟩ := h
  induction n generalizing y j with
  | zero => obtain ⟨rfl, rfl, h1, h2⟩ := h; exact ⟨Nat.le_refl _, h1, h2, h2⟩
  | succ n ih =>
    obtain ⟨z, j', h, rfl, -, h1, h2⟩ := h
    have := ih h
    exact ⟨by omega, h1, h2, this.2.2.2⟩
theorem Run.mono {fit : Nat → Int → Prop} {Fl Fl' : Nat → Nat → Prop} {sg : Nat → Int} {N x i y j : Nat} (h : Run fit Fl sg N x i y j) (q : ∀ a b, Fl a b → Fl' a b) : Run fit Fl' sg N x i y j := by
  obtain ⟨n, h⟩ := h
  induction n generalizing y j with
  | zero => exact ⟨0, h⟩
  | succ n ih =>
    obtain ⟨z, j', h, rfl, e, h1, h2⟩ := h
    exact (ih h).snoc (q _ _ e) h1 h2
theorem Run.app {fit : Nat → Int → Prop} {Fl : Nat → Nat → Prop} {sg : Nat → Int} {N x i y j z w k : Nat} (h : Run fit Fl sg N x i y j) (e : Fl y z) (q : Run fit Fl sg N z (j + 1) w k) : Run fit Fl sg N x i w k := by
  obtain ⟨n, q⟩ := q
  induction n generalizing w k with
  | zero => obtain ⟨rfl, rfl, h1, h2⟩ := q; exact h.snoc e h1 h2
  | succ n ih =>
    obtain ⟨z', j', q, rfl, e', h1, h2⟩ := q
    exact (ih q).snoc e' h1 h2
/-- the positions p .. q - 1 keep to themselves -/
def Own (Fl : Nat → Nat → Prop) (p q : Nat) : Prop := ∀ x y, p ≤ x → x < q → Fl x y → p ≤ y ∧ y < q
theorem Run.own {fit : Nat → Int → Prop} {Fl : Nat → Nat → Prop} {sg : Nat → Int} {N x i y j p q : Nat} (hO : Own Fl p q) (hx : p ≤ x ∧ x < q) (h : Run fit Fl sg N x i y j) : p ≤ y ∧ y < q := by
  obtain ⟨n, h⟩ := h
  induction n generalizing y j with
  | zero => obtain ⟨rfl, -⟩ := h; exact hx
  | succ n ih =>
    obtain ⟨z, j', h, rfl, e, -⟩ := h
    have := ih h
    exact hO z y this.1 this.2 e
/-- runs only see their own part's links -/
theorem Run.loc {fit : Nat → Int → Prop} {Fl Fl' : Nat → Nat → Prop} {sg : Nat → Int} {N x i y j p q : Nat} (hO : Own Fl p q) (hx : p ≤ x ∧ x < q) (hF : ∀ a b, p ≤ a → a < q → Fl a b → Fl' a b) (h : Run fit Fl sg N x i y j) : Run fit Fl' sg N x i y j := by
  obtain ⟨n, h⟩ := h
  induction n generalizing y j with
  | zero => exact ⟨0, h⟩
  | succ n ih =>
    obtain ⟨z, j', h, rfl, e, h1, h2⟩ := h
    have hz := Run.own hO hx ⟨n, h⟩
    exact (ih h).snoc (hF _ _ hz.1 hz.2 e) h1 h2
/-- a part of a word: it stands for G by its positions p .. q - 1 -/
def Prt (fit : Nat → Int → Prop) (Fl : Nat → Nat → Prop) (p q : Nat) (E : Prop) (F L : Nat → Prop) (G : LG) : Prop := p ≤ q ∧ Own Fl p q ∧ (∀ x, F x → p ≤ x ∧ x < q) ∧ (∀ x, L x → p ≤ x ∧ x < q) ∧ ∀ sg N i j, AccG fit Fl E F L sg N i j ↔ G sg N i j
def gEps : LG := fun _ _ i j => i = j
def gNo : LG := fun _ _ _ _ => False
def gCat (A B : LG) : LG := fun sg N i j => ∃ k, A sg N i k ∧ B sg N k j
def gOr (A B : LG) : LG := fun sg N i j => A sg N i j ∨ B sg N i j
def gRep (A : LG) (sg : Nat → Int) (N : Nat) : Nat → Nat → Nat → Prop
  | 0, i, j => i = j
  | n + 1, i, j => ∃ k, A sg N i k ∧ gRep A sg N n k j
def gStar (A : LG) : LG := fun sg N i j => ∃ n, gRep A sg N n i j
def gPlus (A : LG) : LG := fun sg N i j => ∃ k, A sg N i k ∧ gStar A sg N k j
def gMay (A : LG) : LG := fun sg N i j => i = j ∨ A sg N i j
def gAtom (lo hi : Int) : LG := fun sg N i j => i < N ∧ j = i + 1 ∧ lo ≤ sg i ∧ sg i ≤ hi
theorem Prt.eps {fit : Nat → Int → Prop} {Fl : Nat → Nat → Prop} {p : Nat} : Prt fit Fl p p True (fun _ => False) (fun _ => False) gEps :=
  ⟨Nat.le_refl _, fun x y h1 h2 => by omega, fun x h => h.elim, fun x h => h.elim, fun sg N i j => ⟨fun h => by
    rcases h with h | ⟨x, y, j', h, -⟩
    · exact h.1
    · exact h.elim, fun h => Or.inl ⟨h, trivial⟩⟩⟩
theorem Prt.no {fit : Nat → Int → Prop} {Fl : Nat → Nat → Prop} {p : Nat} : Prt fit Fl p p False (fun _ => False) (fun _ => False) gNo :=
  ⟨Nat.le_refl _, fun x y h1 h2 => by omega, fun x h => h.elim, fun x h => h.elim, fun sg N i j => ⟨fun h => by
    rcases h with h | ⟨x, y, j', h, -⟩
    · exact h.2
    · exact h, fun h => h.elim⟩⟩
theorem Prt.atom {fit : Nat → Int → Prop} {Fl : Nat → Nat → Prop} {p : Nat} {lo hi : Int} (hf : ∀ v, fit p v ↔ lo ≤ v ∧ v ≤ hi) (hF : ∀ y, ¬ Fl p y) : Prt fit Fl p (p + 1) False (fun x => x = p) (fun x => x = p) (gAtom lo hi) :=
  ⟨Nat.le_succ _, fun x y h1 h2 h3 => by rw [show x = p by omega] at h3; exact absurd h3 (hF y), fun x h => by omega, fun x h => by omega, fun sg N i j => by
    constructor
    · rintro (h | ⟨x, y, j', rfl, rfl, ⟨n, h⟩, rfl⟩)
      · exact h.2.elim
      · cases n with
        | zero => obtain ⟨-, rfl, h1, h2⟩ := h; exact ⟨h1, rfl, (hf _).mp h2⟩
        | succ n =>
          obtain ⟨z, j2, h, -, e, -⟩ := h
          have := Run.own (p := y) (q := y + 1) (fun a b h1 h2 h3 => by rw [show a = y by omega] at h3; exact absurd h3 (hF b)) ⟨by omega, by omega⟩ ⟨n, h⟩
          rw [show z = y by omega] at e
          exact absurd e (hF _)
    · rintro ⟨h1, rfl, h2⟩
      exact Or.inr ⟨p, p, i, rfl, rfl, Run.one h1 ((hf _).mpr h2), rfl⟩⟩
theorem Prt.cat {fit : Nat → Int → Prop} {Fl Fl' : Nat → Nat → Prop} {p q r : Nat} {E1 E2 : Prop} {F1 L1 F2 L2 : Nat → Prop} {A B : LG} (h1 : Prt fit Fl p q E1 F1 L1 A) (h2 : Prt fit Fl q r E2 F2 L2 B) (hl : ∀ x y, p ≤ x → x < r → (Fl' x y ↔ Fl x y ∨ (L1 x ∧ F2 y))) :
    Prt fit Fl' p r (E1 ∧ E2) (fun x => F1 x ∨ (E1 ∧ F2 x)) (fun x => L2 x ∨ (E2 ∧ L1 x)) (gCat A B) := by
  obtain ⟨a1, a2, a3, a4, a5⟩ := h1
  obtain ⟨b1, b2, b3, b4, b5⟩ := h2
  have hO : Own Fl' p r := fun x y hx hr hf => by
    rcases (hl x y hx hr).mp hf with hf | ⟨hf, hg⟩
    · by_cases z : x < q
      · have := a2 x y hx z hf; omega
      · have := b2 x y (by omega) hr hf; omega
    · have := b3 y hg; omega
  -- a run of the whole, from a position of the second part
  have run2 : ∀ sg N x i y j, q ≤ x → x < r → Run fit Fl' sg N x i y j → Run fit Fl sg N x i y j ∧ q ≤ y ∧ y < r := by
    intro sg N x i y j hx hr h
    obtain ⟨n, h⟩ := h
    induction n generalizing y j with
    | zero => obtain ⟨rfl, rfl, g1, g2⟩ := h; exact ⟨Run.one g1 g2, hx, hr⟩
    | succ n ih =>
      obtain ⟨z, j', h, rfl, e, g1, g2⟩ := h
      obtain ⟨c1, c2, c3⟩ := ih z j' h
      rcases (hl z y (by omega) c3).mp e with e | ⟨e, -⟩
      · exact ⟨c1.snoc e g1 g2, b2 z y c2 c3 e⟩
      · have := a4 z e; omega
  have run1 : ∀ sg N x i y j, p ≤ x → x < q → Run fit Fl' sg N x i y j → (Run fit Fl sg N x i y j ∧ p ≤ y ∧ y < q) ∨ ∃ y1 x2 j1, Run fit Fl sg N x i y1 j1 ∧ L1 y1 ∧ F2 x2 ∧ Run fit Fl sg N x2 (j1 + 1) y j ∧ q ≤ y ∧ y < r := by
    intro sg N x i y j hx hr h
    obtain ⟨n, h⟩ := h
    induction n generalizing y j with
    | zero => obtain ⟨rfl, rfl, g1, g2⟩ := h; exact Or.inl ⟨Run.one g1 g2, hx, hr⟩
    | succ n ih =>
      obtain ⟨z, j', h, rfl, e, g1, g2⟩ := h
      rcases ih z j' h with ⟨c1, c2, c3⟩ | ⟨y1, x2, j1, c1, c2, c3, c4, c5, c6⟩
      · rcases (hl z y c2 (by omega)).mp e with e | ⟨e, e2⟩
        · exact Or.inl ⟨c1.snoc e g1 g2, a2 z y c2 c3 e⟩
        · exact Or.inr ⟨z, y, j', c1, e, e2, Run.one g1 g2, b3 y e2⟩
      · rcases (hl z y (by omega) c6).mp e with e | ⟨e, -⟩
        · exact Or.inr ⟨y1, x2, j1, c1, c2, c3, c4.snoc e g1 g2, b2 z y c5 c6 e⟩
        · have := a4 z e; omega
  have up1 : ∀ sg N x i y j, F1 x → Run fit Fl sg N x i y j → Run fit Fl' sg N x i y j := fun sg N x i y j hx h => h.loc a2 (a3 x hx) (fun a b ha hb e => (hl a b ha (by omega)).mpr (Or.inl e))
  have up2 : ∀ sg N x i y j, F2 x → Run fit Fl sg N x i y j → Run fit Fl' sg N x i y j := fun sg N x i y j hx h => h.loc b2 (b3 x hx) (fun a b ha hb e => (hl a b (by omega) hb).mpr (Or.inl e))
  refine ⟨by omega, hO, fun x h => ?_, fun x h => ?_, fun sg N i j => ⟨fun h => ?_, fun h => ?_⟩⟩
  · rcases h with h | h
    · have := a3 x h; omega
    · have := b3 x h.2; omega
  · rcases h with h | h
    · have := b4 x h; omega
    · have := a4 x h.2; omega
  · rcases h with ⟨rfl, e1, e2⟩ | ⟨x, y, j', hF, hL, hR, rfl⟩
    · exact ⟨i, (a5 _ _ _ _).mp (Or.inl ⟨rfl, e1⟩), (b5 _ _ _ _).mp (Or.inl ⟨rfl, e2⟩)⟩
    · rcases hF with hF | ⟨e1, hF⟩
      · have hx := a3 x hF
        rcases run1 sg N x i y j' hx.1 hx.2 hR with ⟨c1, c2, c3⟩ | ⟨y1, x2, j1, c1, c2, c3, c4, c5, c6⟩
        · rcases hL with hL | ⟨e2, hL⟩
          · have := b4 y hL; omega
          · exact ⟨j' + 1, (a5 _ _ _ _).mp (Or.inr ⟨x, y, j', hF, hL, c1, rfl⟩), (b5 _ _ _ _).mp (Or.inl ⟨rfl, e2⟩)⟩
        · rcases hL with hL | ⟨e2, hL⟩
          · exact ⟨j1 + 1, (a5 _ _ _ _).mp (Or.inr ⟨x, y1, j1, hF, c2, c1, rfl⟩), (b5 _ _ _ _).mp (Or.inr ⟨x2, y, j', c3, hL, c4, rfl⟩)⟩
          · have := a4 y hL; omega
      · have hx := b3 x hF
        obtain ⟨c1, c2, c3⟩ := run2 sg N x i y j' hx.1 hx.2 hR
        rcases hL with hL | ⟨e2, hL⟩
        · exact ⟨i, (a5 _ _ _ _).mp (Or.inl ⟨rfl, e1⟩), (b5 _ _ _ _).mp (Or.inr ⟨x, y, j', hF, hL, c1, rfl⟩)⟩
        · have := a4 y hL; omega
  · obtain ⟨k, hA, hB⟩ := h
    rcases (a5 _ _ _ _).mpr hA with ⟨rfl, e1⟩ | ⟨x, y, j1, f1, g1, r1, rfl⟩
    · rcases (b5 _ _ _ _).mpr hB with ⟨rfl, e2⟩ | ⟨x2, y2, j2, f2, g2, r2, rfl⟩
      · exact Or.inl ⟨rfl, e1, e2⟩
      · exact Or.inr ⟨x2, y2, j2, Or.inr ⟨e1, f2⟩, Or.inl g2, up2 _ _ _ _ _ _ f2 r2, rfl⟩
    · rcases (b5 _ _ _ _).mpr hB with ⟨rfl, e2⟩ | ⟨x2, y2, j2, f2, g2, r2, rfl⟩
      · exact Or.inr ⟨x, y, j1, Or.inl f1, Or.inr ⟨e2, g1⟩, up1 _ _ _ _ _ _ f1 r1, rfl⟩
      · exact Or.inr ⟨x, y2, j2, Or.inl f1, Or.inl g2, (up1 _ _ _ _ _ _ f1 r1).app ((hl y x2 (a4 y g1).1 (by have := (a4 y g1).2; omega)).mpr (Or.inr ⟨g1, f2⟩)) (up2 _ _ _ _ _ _ f2 r2), rfl⟩
theorem Prt.or {fit : Nat → Int → Prop} {Fl : Nat → Nat → Prop} {p q r : Nat} {E1 E2 : Prop} {F1 L1 F2 L2 : Nat → Prop} {A B : LG} (h1 : Prt fit Fl p q E1 F1 L1 A) (h2 : Prt fit Fl q r E2 F2 L2 B) : Prt fit Fl p r (E1 ∨ E2) (fun x => F1 x ∨ F2 x) (fun x => L1 x ∨ L2 x) (gOr A B) := by
  obtain ⟨a1, a2, a3, a4, a5⟩ := h1
  obtain ⟨b1, b2, b3, b4, b5⟩ := h2
  refine ⟨by omega, fun x y hx hr hf => ?_, fun x h => ?_, fun x h => ?_, fun sg N i j => ⟨fun h => ?_, fun h => ?_⟩⟩
  · by_cases z : x < q
    · have := a2 x y hx z hf; omega
    · have := b2 x y (by omega) hr hf; omega
  · rcases h with h | h
    · have := a3 x h; omega
    · have := b3 x h; omega
  · rcases h with h | h
    · have := a4 x h; omega
    · have := b4 x h; omega
  · rcases h with ⟨rfl, e1 | e2⟩ | ⟨x, y, j', hF, hL, hR, rfl⟩
    · exact Or.inl ((a5 _ _ _ _).mp (Or.inl ⟨rfl, e1⟩))
    · exact Or.inr ((b5 _ _ _ _).mp (Or.inl ⟨rfl, e2⟩))
    · rcases hF with hF | hF
      · have hy := hR.own a2 (a3 x hF)
        rcases hL with hL | hL
        · exact Or.inl ((a5 _ _ _ _).mp (Or.inr ⟨x, y, j', hF, hL, hR, rfl⟩))
        · have := b4 y hL; omega
      · have hy := hR.own b2 (b3 x hF)
        rcases hL with hL | hL
        · have := a4 y hL; omega
        · exact Or.inr ((b5 _ _ _ _).mp (Or.inr ⟨x, y, j', hF, hL, hR, rfl⟩))
  · rcases h with h | h
    · rcases (a5 _ _ _ _).mpr h with ⟨rfl, e⟩ | ⟨x, y, j', f, g, r', rfl⟩
      · exact Or.inl ⟨rfl, Or.inl e⟩
      · exact Or.inr ⟨x, y, j', Or.inl f, Or.inl g, r', rfl⟩
    · rcases (b5 _ _ _ _).mpr h with ⟨rfl, e⟩ | ⟨x, y, j', f, g, r', rfl⟩
      · exact Or.inl ⟨rfl, Or.inr e⟩
      · exact Or.inr ⟨x, y, j', Or.inr f, Or.inr g, r', rfl⟩
theorem gRep.app {A : LG} {sg : Nat → Int} {N : Nat} : ∀ {n i k j : Nat}, gRep A sg N n i k → A sg N k j → gRep A sg N (n + 1) i j
  | 0, i, k, j, h, q => ⟨j, by rw [show i = k from h]; exact q, rfl⟩
  | n + 1, i, k, j, h, q => by
    obtain ⟨m, h1, h2⟩ := h
    exact ⟨m, h1, gRep.app h2 q⟩
theorem Prt.plus {fit : Nat → Int → Prop} {Fl Fl' : Nat → Nat → Prop} {p q : Nat} {E : Prop} {F L : Nat → Prop} {A : LG} (h : Prt fit Fl p q E F L A) (hl : ∀ x y, p ≤ x → x < q → (Fl' x y ↔ Fl x y ∨ (L x ∧ F y))) : Prt fit Fl' p q E F L (gPlus A) := by
  obtain ⟨a1, a2, a3, a4, a5⟩ := h
  have up : ∀ sg N x i y j, F x → Run fit Fl sg N x i y j → Run fit Fl' sg N x i y j := fun sg N x i y j hx h => h.loc a2 (a3 x hx) (fun a b ha hb e => (hl a b ha hb).mpr (Or.inl e))
  -- a run of the whole is pieces
  have run : ∀ sg N x i y j, F x → Run fit Fl' sg N x i y j → ∃ n k x2, gRep A sg N n i k ∧ F x2 ∧ Run fit Fl sg N x2 k y j ∧ p ≤ y ∧ y < q := by
    intro sg N x i y j hx h
    obtain ⟨n, h⟩ := h
    induction n generalizing y j with
    | zero => obtain ⟨rfl, rfl, g1, g2⟩ := h; exact ⟨0, j, y, rfl, hx, Run.one g1 g2, a3 y hx⟩
    | succ n ih =>
      obtain ⟨z, j', h, rfl, e, g1, g2⟩ := h
      obtain ⟨m, k, x2, c1, c2, c3, c4, c5⟩ := ih z j' h
      rcases (hl z y c4 c5).mp e with e | ⟨e, e2⟩
      · exact ⟨m, k, x2, c1, c2, c3.snoc e g1 g2, a2 z y c4 c5 e⟩
      · exact ⟨m + 1, j' + 1, y, c1.app ((a5 _ _ _ _).mp (Or.inr ⟨x2, z, j', c2, e, c3, rfl⟩)), e2, Run.one g1 g2, a3 y e2⟩
  have back : ∀ sg N n i k j, gRep A sg N n i k → A sg N k j → (i = j ∧ E) ∨ ∃ x y j', F x ∧ L y ∧ Run fit Fl' sg N x i y j' ∧ j = j' + 1 := by
    intro sg N n
    induction n with
    | zero =>
      intro i k j h hA
      rw [show i = k from h]
      rcases (a5 _ _ _ _).mpr hA with h' | ⟨x, y, j', f, g, r, rfl⟩
      · exact Or.inl h'
      · exact Or.inr ⟨x, y, j', f, g, up _ _ _ _ _ _ f r, rfl⟩
    | succ n ih =>
      intro i k j h hA
      obtain ⟨m, h1, h2⟩ := h
      have h3 := ih m k j h2 hA
      rcases (a5 _ _ _ _).mpr h1 with ⟨rfl, e⟩ | ⟨x, y, j', f, g, r, rfl⟩
      · exact h3
      · rcases h3 with ⟨rfl, e⟩ | ⟨x2, y2, j2, f2, g2, r2, rfl⟩
        · exact Or.inr ⟨x, y, j', f, g, up _ _ _ _ _ _ f r, rfl⟩
        · exact Or.inr ⟨x, y2, j2, f, g2, (up _ _ _ _ _ _ f r).app ((hl y x2 (a4 y g).1 (a4 y g).2).mpr (Or.inr ⟨g, f2⟩)) r2, rfl⟩
  refine ⟨a1, fun x y hx hr hf => ?_, a3, a4, fun sg N i j => ⟨fun h => ?_, fun h => ?_⟩⟩
  · rcases (hl x y hx hr).mp hf with hf | ⟨-, hf⟩
    · exact a2 x y hx hr hf
    · exact a3 y hf
  · rcases h with ⟨rfl, e⟩ | ⟨x, y, j', hF, hL, hR, rfl⟩
    · exact ⟨i, (a5 _ _ _ _).mp (Or.inl ⟨rfl, e⟩), 0, rfl⟩
    · obtain ⟨n, k, x2, c1, c2, c3, c4, c5⟩ := run sg N x i y j' hF hR
      have h9 : gRep A sg N (n + 1) i (j' + 1) := c1.app ((a5 _ _ _ _).mp (Or.inr ⟨x2, y, j', c2, hL, c3, rfl⟩))
      obtain ⟨k2, d1, d2⟩ := h9
      exact ⟨k2, d1, n, d2⟩
  · obtain ⟨k, h1, n, h2⟩ := h
    -- the last piece
    have last : ∀ n i k j, A sg N i k → gRep A sg N n k j → ∃ m k2, gRep A sg N m i k2 ∧ A sg N k2 j := by
      intro n
      induction n with
      | zero => intro i k j g1 g2; exact ⟨0, i, rfl, by rw [← show k = j from g2]; exact g1⟩
      | succ n ih =>
        intro i k j g1 g2
        obtain ⟨m, c1, c2⟩ := g2
        obtain ⟨m2, k2, d1, d2⟩ := ih k m j c1 c2
        exact ⟨m2 + 1, k2, ⟨k, g1, d1⟩, d2⟩
    obtain ⟨m, k2, d1, d2⟩ := last n i k j h1 h2
    exact back sg N m i k2 j d1 d2
theorem Prt.may {fit : Nat → Int → Prop} {Fl : Nat → Nat → Prop} {p q : Nat} {E : Prop} {F L : Nat → Prop} {A : LG} (h : Prt fit Fl p q E F L A) : Prt fit Fl p q True F L (gMay A) := by
  obtain ⟨a1, a2, a3, a4, a5⟩ := h
  refine ⟨a1, a2, a3, a4, fun sg N i j => ⟨fun h => ?_, fun h => ?_⟩⟩
  · rcases h with ⟨rfl, -⟩ | h
    · exact Or.inl rfl
    · exact Or.inr ((a5 _ _ _ _).mp (Or.inr h))
  · rcases h with h | h
    · exact Or.inl ⟨h, trivial⟩
    · rcases (a5 _ _ _ _).mpr h with ⟨rfl, -⟩ | h
      · exact Or.inl ⟨rfl, trivial⟩
      · exact Or.inr h
theorem star_eq {A : LG} {sg : Nat → Int} {N i j : Nat} : gMay (gPlus A) sg N i j ↔ gStar A sg N i j := by
  constructor
  · rintro (h | ⟨k, h1, n, h2⟩)
    · exact ⟨0, h⟩
    · exact ⟨n + 1, k, h1, h2⟩
  · rintro ⟨n, h⟩
    cases n with
    | zero => exact Or.inl h
    | succ n => obtain ⟨k, h1, h2⟩ := h; exact Or.inr ⟨k, h1, n, h2⟩
theorem Prt.eq {fit : Nat → Int → Prop} {Fl : Nat → Nat → Prop} {p q : Nat} {E E' : Prop} {F L F' L' : Nat → Prop} {A B : LG} (h : Prt fit Fl p q E F L A) (e : E ↔ E') (f : ∀ x, F x ↔ F' x) (l : ∀ x, L x ↔ L' x) (g : ∀ sg N i j, A sg N i j ↔ B sg N i j) : Prt fit Fl p q E' F' L' B := by
  obtain ⟨a1, a2, a3, a4, a5⟩ := h
  refine ⟨a1, a2, fun x h => a3 x ((f x).mpr h), fun x h => a4 x ((l x).mpr h), fun sg N i j => ?_⟩
  rw [← g, ← a5]
  unfold AccG
  simp only [e, f, l]
/-- other positions' links don't matter -/
theorem Prt.far {fit : Nat → Int → Prop} {Fl Fl' : Nat → Nat → Prop} {fit' : Nat → Int → Prop} {p q : Nat} {E : Prop} {F L : Nat → Prop} {A : LG} (h : Prt fit Fl p q E F L A) (hl : ∀ x y, p ≤ x → x < q → (Fl' x y ↔ Fl x y)) (hf : ∀ x v, p ≤ x → x < q → (fit' x v ↔ fit x v)) : Prt fit' Fl' p q E F L A := by
  obtain ⟨a1, a2, a3, a4, a5⟩ := h
  have hO : Own Fl' p q := fun x y hx hq e => a2 x y hx hq ((hl x y hx hq).mp e)
  have run : ∀ (f1 f2 : Nat → Int → Prop) (G1 G2 : Nat → Nat → Prop), Own G1 p q → (∀ x y, p ≤ x → x < q → G1 x y → G2 x y) → (∀ x v, p ≤ x → x < q → f1 x v → f2 x v) → ∀ sg N x i y j, p ≤ x ∧ x < q → Run f1 G1 sg N x i y j → Run f2 G2 sg N x i y j := by
    intro f1 f2 G1 G2 o g f sg N x i y j hx h
    obtain ⟨n, h⟩ := h
    induction n generalizing y j with
    | zero => obtain ⟨rfl, rfl, h1, h2⟩ := h; exact Run.one h1 (f _ _ hx.1 hx.2 h2)
    | succ n ih =>
      obtain ⟨z, j', h, rfl, e, h1, h2⟩ := h
      have hz := Run.own o hx ⟨n, h⟩
      have hy := o z y hz.1 hz.2 e
      exact (ih z j' h).snoc (g _ _ hz.1 hz.2 e) h1 (f _ _ hy.1 hy.2 h2)
  refine ⟨a1, hO, a3, a4, fun sg N i j => ?_⟩
  rw [← a5]
  constructor
  · rintro (h | ⟨x, y, j', f, l, r, rfl⟩)
    · exact Or.inl h
    · exact Or.inr ⟨x, y, j', f, l, run _ _ _ _ hO (fun a b ha hb e => (hl a b ha hb).mp e) (fun a v ha hb e => (hf a v ha hb).mp e) _ _ _ _ _ _ (a3 x f) r, rfl⟩
  · rintro (h | ⟨x, y, j', f, l, r, rfl⟩)
    · exact Or.inl h
    · exact Or.inr ⟨x, y, j', f, l, run _ _ _ _ a2 (fun a b ha hb e => (hl a b ha hb).mpr e) (fun a v ha hb e => (hf a v ha hb).mpr e) _ _ _ _ _ _ (a3 x f) r, rfl⟩
