-- the grammar, as functions of a text: a fault (as read answers it), or what was read
abbrev PT : Type := Int × Int × List Int
abbrev JT : Type := Int × Int × Int
abbrev MT : Type := Int × PT × PT × PT × JT × JT × Int
def pb {α β : Type} (x : Int ⊕ α) (f : α → Int ⊕ β) : Int ⊕ β := match x with
  | .inl e => .inl e
  | .inr a => f a
theorem pb_r {α β : Type} (a : α) (f : α → Int ⊕ β) : pb (.inr a) f = f a := rfl
theorem pb_l {α β : Type} (e : Int) (f : α → Int ⊕ β) : pb (.inl e) f = .inl e := rfl
def pIs (t : Int → Int) (q b : Int) : Int ⊕ Tk := if (lx t b 0).2.1 = q then .inr (lx t b 0) else .inl (-10 - (lx t b 0).1)
def pNum (t : Int → Int) (m b : Int) : Int ⊕ Tk := if (lx t b 0).2.1 = 1 then (if (lx t b 0).2.2.1 < m then .inr (lx t b 0) else .inl (-1000 - (lx t b 0).1)) else .inl (-10 - (lx t b 0).1)
abbrev esc (c : Int) : Prop := c = 34 ∨ c = 92 ∨ c = 123 ∨ c = 125
/-- one piece of a template: it, and what is behind it -/
def pPc (t : Int → Int) (m b : Int) : Int ⊕ (Int × Int) := if t b = 123 then (if (dge t 4 (b + 1) 0).1 = b + 1 then .inl (-10 - (b + 1)) else if m ≤ (dge t 4 (b + 1) 0).2 then .inl (-1000 - (b + 1)) else if t (dge t 4 (b + 1) 0).1 = 125 then .inr ((dge t 4 (b + 1) 0).2, (dge t 4 (b + 1) 0).1 + 1) else .inl (-10 - (dge t 4 (b + 1) 0).1)) else if t b = 92 then (if esc (t (b + 1)) then .inr (t (b + 1), b + 2) else .inl (-10 - (b + 1))) else .inr (t b, b + 1)
def pcs (t : Int → Int) (m : Int) : Nat → Int → List Int → Int ⊕ (List Int × Int)
  | 0, b, l => if t b = 34 then .inr (l, b + 1) else if t b < 32 ∨ 126 < t b ∨ t b = 125 then .inl (-10 - b) else .inl (-1000 - b)
  | k + 1, b, l => if t b = 34 then .inr (l, b + 1) else if t b < 32 ∨ 126 < t b ∨ t b = 125 then .inl (-10 - b) else pb (pPc t m b) fun x => pcs t m k x.2 (l ++ [x.1])
def pName (t : Int → Int) (m : Int) (σ : Tk) : Int ⊕ (PT × Int) := if σ.2.1 = 34 then pb (pcs t m 30 σ.2.2.2 []) fun x => .inr ((0, 0, x.1), x.2) else if σ.2.1 = 95 then pb (pNum t m σ.2.2.2) fun y => .inr ((1, y.2.2.1, []), y.2.2.2) else .inl (-10 - σ.1)
def pJoin (t : Int → Int) (D : DT) (s m c a b : Int) : Int ⊕ (JT × Tk) := pb (pNum t D.1 b) fun y => if y.2.2.1 = s then .inl (-1000 - y.1) else if co D y.2.2.1 ≤ c then .inl (-1000 - a) else pb (pIs t 25209 y.2.2.2) fun z => pb (pNum t m z.2.2.2) fun u => pb (pNum t (co D y.2.2.1) u.2.2.2) fun w => .inr ((y.2.2.1, u.2.2.1, w.2.2.1), lx t w.2.2.2 0)
def pObj (t : Int → Int) (D : DT) (s m : Int) (σ : Tk) : Int ⊕ (PT × JT × Tk) := if σ.2.1 = 36 then pb (pNum t 4 σ.2.2.2) fun y => if (lx t y.2.2.2 0).2.1 = 28518 then pb (pJoin t D s m y.2.2.1 y.1 (lx t y.2.2.2 0).2.2.2) fun j => .inr ((2, y.2.2.1, []), j.1, j.2) else if y.2.2.1 < m then .inr ((2, y.2.2.1, []), (-1, 0, 0), lx t y.2.2.2 0) else .inl (-1000 - y.1) else pb (pName t m σ) fun p => .inr (p.1, (-1, 0, 0), lx t p.2 0)
def pCond (t : Int → Int) (m : Int) (σ : Tk) : Int ⊕ (JT × Tk) := if (lx t σ.2.2.2 0).2.1 = 1853189228 then (if (lx t (lx t σ.2.2.2 0).2.2.2 0).2.1 = 36 then pb (pNum t m (lx t (lx t σ.2.2.2 0).2.2.2 0).2.2.2) fun u => .inr ((1853189228, u.2.2.1, 0), lx t u.2.2.2 0) else .inl (-10 - (lx t (lx t σ.2.2.2 0).2.2.2 0).1)) else if (lx t σ.2.2.2 0).2.1 = 36 then pb (pNum t m (lx t σ.2.2.2 0).2.2.2) fun u => if (lx t u.2.2.2 0).2.1 = 61 ∨ (lx t u.2.2.2 0).2.1 = 60 ∨ (lx t u.2.2.2 0).2.1 = 62 then pb (pIs t 1 (lx t u.2.2.2 0).2.2.2) fun w => .inr (((lx t u.2.2.2 0).2.1, u.2.2.1, w.2.2.1), lx t w.2.2.2 0) else .inl (-10 - (lx t u.2.2.2 0).1) else .inl (-10 - (lx t σ.2.2.2 0).1)
def pGra (t : Int → Int) (σ : Tk) : Int ⊕ (Int × Tk) := pb (pNum t 10 σ.2.2.2) fun y => .inr (y.2.2.1, lx t y.2.2.2 0)
def pMap (t : Int → Int) (D : DT) (b : Int) : Int ⊕ (MT × Tk) :=
  pb (pNum t D.1 b) fun y =>
  pb (pIs t 58 y.2.2.2) fun z =>
  pb (pName t (co D y.2.2.1) (lx t z.2.2.2 0)) fun p =>
  pb (pIs t 34 p.2) fun q =>
  pb (pcs t (co D y.2.2.1) 30 q.2.2.2 []) fun l =>
  pb (pObj t D y.2.2.1 (co D y.2.2.1) (lx t l.2 0)) fun o =>
  pb (if o.2.2.2.1 = 26982 then pCond t (co D y.2.2.1) o.2.2 else .inr ((-1, 0, 0), o.2.2)) fun c =>
  pb (if c.2.2.1 = 26990 then pGra t c.2 else .inr (-1, c.2)) fun g =>
  if g.2.2.1 = 46 then .inr ((y.2.2.1, p.1, (0, 0, l.1), o.1, o.2.1, c.1, g.1), lx t g.2.2.2.2 0) else .inl (-10 - g.2.1)
def pAll (t : Int → Int) (D : DT) : Nat → Tk → List MT → Int ⊕ List MT
  | 0, σ, l => if σ.2.1 = 7168368 then .inl (-1000 - σ.1) else if σ.2.1 = -1 then .inr l else .inl (-10 - σ.1)
  | k + 1, σ, l => if σ.2.1 = 7168368 then pb (pMap t D σ.2.2.2) fun x => pAll t D k x.2 (l ++ [x.1]) else if σ.2.1 = -1 then .inr l else .inl (-10 - σ.1)
theorem lxs_v (t : Int → Int) (s v w : Int) : (lxs t s v).1 = (lxs t s w).1 ∧ (lxs t s v).2.1 = (lxs t s w).2.1 ∧ ((lxs t s w).2.1 = 1 → (lxs t s v).2.2.1 = (lxs t s w).2.2.1) ∧ (lxs t s v).2.2.2 = (lxs t s w).2.2.2 := by
  unfold lxs
  split
  · next h =>
    refine ⟨rfl, rfl, ?_, rfl⟩
    dsimp only
    intro q
    exfalso
    have hw := wdk_e h
    revert q
    split
    · intro q
      omega
    · intro q
      omega
  · split
    · exact ⟨rfl, rfl, fun _ => rfl, rfl⟩
    · split
      · refine ⟨rfl, rfl, ?_, rfl⟩
        dsimp only
        intro q
        omega
      · refine ⟨rfl, rfl, ?_, rfl⟩
        dsimp only
        intro q
        exfalso
        revert q
        split
        · intro q
          omega
        · intro q
          omega
theorem lx_v (t : Int → Int) (b v w : Int) : (lx t b v).1 = (lx t b w).1 ∧ (lx t b v).2.1 = (lx t b w).2.1 ∧ ((lx t b w).2.1 = 1 → (lx t b v).2.2.1 = (lx t b w).2.2.1) ∧ (lx t b v).2.2.2 = (lx t b w).2.2.2 := lxs_v t _ v w
