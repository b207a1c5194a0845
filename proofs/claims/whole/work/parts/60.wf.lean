-- what a mapping that was read keeps to
def okC (k p : Int) : Prop := (0 ≤ p ∧ p < k) ∨ (32 ≤ p ∧ p ≤ 126)
def wfP (k : Int) (x : PT) : Prop := (x.1 = 0 ∧ x.2.2.length ≤ 30 ∧ ∀ p ∈ x.2.2, okC k p) ∨ (x.1 = 1 ∧ 0 ≤ x.2.1 ∧ x.2.1 < k)
def wfM (D : DT) (x : MT) : Prop := (0 ≤ x.1 ∧ x.1 < D.1) ∧ wfP (co D x.1) x.2.1 ∧ (wfP (co D x.1) x.2.2.1 ∧ x.2.2.1.1 = 0) ∧ ((wfP (co D x.1) x.2.2.2.1 ∧ x.2.2.2.2.1.1 = -1) ∨ (x.2.2.2.1.1 = 2 ∧ x.2.2.2.1.2.2 = [] ∧ 0 ≤ x.2.2.2.1.2.1 ∧ ((x.2.2.2.2.1.1 = -1 ∧ x.2.2.2.1.2.1 < co D x.1) ∨ (0 ≤ x.2.2.2.2.1.1 ∧ x.2.2.2.2.1.1 < D.1 ∧ x.2.2.2.2.1.1 ≠ x.1 ∧ x.2.2.2.1.2.1 < co D x.2.2.2.2.1.1 ∧ 0 ≤ x.2.2.2.2.1.2.1 ∧ x.2.2.2.2.1.2.1 < co D x.1 ∧ 0 ≤ x.2.2.2.2.1.2.2 ∧ x.2.2.2.2.1.2.2 < co D x.2.2.2.2.1.1)))) ∧ (x.2.2.2.2.2.1.1 = -1 ∨ ((x.2.2.2.2.2.1.1 = 1853189228 ∨ x.2.2.2.2.2.1.1 = 61 ∨ x.2.2.2.2.2.1.1 = 60 ∨ x.2.2.2.2.2.1.1 = 62) ∧ 0 ≤ x.2.2.2.2.2.1.2.1 ∧ x.2.2.2.2.2.1.2.1 < co D x.1 ∧ 0 ≤ x.2.2.2.2.2.1.2.2 ∧ x.2.2.2.2.2.1.2.2 ≤ 9999)) ∧ (-1 ≤ x.2.2.2.2.2.2 ∧ x.2.2.2.2.2.2 < 10)
theorem pb_i {α β : Type} {x : Int ⊕ α} {f : α → Int ⊕ β} {b : β} (h : pb x f = .inr b) : ∃ a, x = .inr a ∧ f a = .inr b := by
  cases x with
  | inl e => cases h
  | inr a => exact ⟨a, rfl, h⟩
theorem lxs_n0 (t : Int → Int) (p : Int) : 0 ≤ (lxs t p 0).2.2.1 ∧ (lxs t p 0).2.2.1 ≤ 9999 := by
  have hd2 := dge_lt t p
  have hd : ∀ (k : Nat) (q v : Int), 0 ≤ v → 0 ≤ (dge t k q v).2 := by
    intro k
    induction k with
    | zero => exact fun q v h => h
    | succ k ih =>
      intro q v h
      unfold dge
      split
      · exact ih _ _ (by omega)
      · exact h
  unfold lxs
  split
  · exact ⟨Int.le_refl 0, show (0 : Int) ≤ 9999 by decide⟩
  · split
    · exact ⟨hd 4 p 0 (Int.le_refl 0), hd2⟩
    · split
      · exact ⟨Int.le_refl 0, show (0 : Int) ≤ 9999 by decide⟩
      · exact ⟨Int.le_refl 0, show (0 : Int) ≤ 9999 by decide⟩
theorem lx_n0 (t : Int → Int) (p : Int) : 0 ≤ (lx t p 0).2.2.1 ∧ (lx t p 0).2.2.1 ≤ 9999 := lxs_n0 t _
theorem pNum_i {t : Int → Int} {m b : Int} {y : Tk} (h : pNum t m b = .inr y) : y = lx t b 0 ∧ y.2.1 = 1 ∧ y.2.2.1 < m ∧ 0 ≤ y.2.2.1 ∧ y.2.2.1 ≤ 9999 := by
  have := lx_n0 t b
  obtain ⟨h1, h2, h3⟩ := qNum_i (σ := lx t b 0) h
  subst h1
  exact ⟨rfl, h2, h3, this.1, this.2⟩
theorem pIs_i {t : Int → Int} {q b : Int} {y : Tk} (h : pIs t q b = .inr y) : y = lx t b 0 ∧ y.2.1 = q ∧ 0 ≤ y.2.2.1 ∧ y.2.2.1 ≤ 9999 := by
  have := lx_n0 t b
  obtain ⟨h1, h2⟩ := qIs_i (σ := lx t b 0) h
  subst h1
  exact ⟨rfl, h2, this.1, this.2⟩
theorem dge_0 (t : Int → Int) : ∀ (k : Nat) (q v : Int), 0 ≤ v → 0 ≤ (dge t k q v).2
  | 0, q, v, h => h
  | k + 1, q, v, h => by
    unfold dge
    split
    · exact dge_0 t k _ _ (by omega)
    · exact h
theorem pPc_ok {t : Int → Int} {m b : Int} {x : Int × Int} (h2 : ¬ (t b < 32 ∨ 126 < t b ∨ t b = 125)) (h : pPc t m b = .inr x) : okC m x.1 := by
  unfold pPc at h
  split at h
  · split at h
    · cases h
    · split at h
      · cases h
      · split at h
        · cases h
          exact Or.inl ⟨dge_0 t 4 _ 0 (Int.le_refl 0), by dsimp only; omega⟩
        · cases h
  · split at h
    · split at h
      · next h3 =>
        cases h
        exact Or.inr ⟨by dsimp only; omega, by dsimp only; omega⟩
      · cases h
    · cases h
      exact Or.inr ⟨by dsimp only; omega, by dsimp only; omega⟩
theorem pcs_ok {t : Int → Int} {m : Int} : ∀ (k : Nat) (b : Int) (l : List Int) (x : List Int × Int), (∀ p ∈ l, okC m p) → pcs t m k b l = .inr x → ∀ p ∈ x.1, okC m p
  | 0, b, l, x, hl, h => by
    unfold pcs at h
    split at h
    · cases h
      exact hl
    · split at h <;> cases h
  | k + 1, b, l, x, hl, h => by
    unfold pcs at h
    split at h
    · cases h
      exact hl
    · split at h
      · cases h
      · next h2 =>
        obtain ⟨y, hp, hy⟩ := pb_i h
        refine pcs_ok k y.2 (l ++ [y.1]) x ?_ hy
        intro p hp2
        rcases List.mem_append.mp hp2 with h3 | h3
        · exact hl p h3
        · rw [List.mem_singleton.mp h3]
          exact pPc_ok h2 hp
theorem pcs_wf {t : Int → Int} {m b : Int} {x : List Int × Int} (h : pcs t m 30 b [] = .inr x) : wfP m (0, 0, x.1) := Or.inl ⟨rfl, pcs_len 30 b [] x rfl h, pcs_ok 30 b [] x (fun p hp => by cases hp) h⟩
theorem pName_wf {t : Int → Int} {m : Int} {σ : Tk} {x : PT × Int} (h : pName t m σ = .inr x) : wfP m x.1 := by
  unfold pName at h
  split at h
  · obtain ⟨y, hp, hy⟩ := pb_i h
    cases hy
    exact pcs_wf hp
  · split at h
    · obtain ⟨y, hp, hy⟩ := pb_i h
      cases hy
      obtain ⟨-, -, h3, h4, -⟩ := pNum_i hp
      exact Or.inr ⟨rfl, h4, h3⟩
    · cases h
theorem pObj_wf {t : Int → Int} {D : DT} {s m : Int} {σ : Tk} {x : PT × JT × Tk} (h : pObj t D s m σ = .inr x) : (wfP m x.1 ∧ x.2.1.1 = -1) ∨ (x.1.1 = 2 ∧ x.1.2.2 = [] ∧ 0 ≤ x.1.2.1 ∧ ((x.2.1.1 = -1 ∧ x.1.2.1 < m) ∨ (0 ≤ x.2.1.1 ∧ x.2.1.1 < D.1 ∧ x.2.1.1 ≠ s ∧ x.1.2.1 < co D x.2.1.1 ∧ 0 ≤ x.2.1.2.1 ∧ x.2.1.2.1 < m ∧ 0 ≤ x.2.1.2.2 ∧ x.2.1.2.2 < co D x.2.1.1))) := by
  unfold pObj at h
  split at h
  · obtain ⟨y, hp, hy⟩ := pb_i h
    obtain ⟨-, -, y3, y4, -⟩ := pNum_i hp
    split at hy
    · obtain ⟨j, hj, hj2⟩ := pb_i hy
      cases hj2
      unfold pJoin at hj
      obtain ⟨y2, hp2, hy2⟩ := pb_i hj
      obtain ⟨-, -, z3, z4, -⟩ := pNum_i hp2
      split at hy2
      · cases hy2
      · split at hy2
        · cases hy2
        · next n1 n2 =>
          obtain ⟨z, hz, hz2⟩ := pb_i hy2
          obtain ⟨u, hu, hu2⟩ := pb_i hz2
          obtain ⟨w, hw, hw2⟩ := pb_i hu2
          obtain ⟨-, -, u3, u4, -⟩ := pNum_i hu
          obtain ⟨-, -, w3, w4, -⟩ := pNum_i hw
          cases hw2
          exact Or.inr ⟨rfl, rfl, y4, Or.inr ⟨z4, z3, n1, by dsimp only; omega, u4, u3, w4, w3⟩⟩
    · split at hy
      · next n1 =>
        cases hy
        exact Or.inr ⟨rfl, rfl, y4, Or.inl ⟨rfl, n1⟩⟩
      · cases hy
  · obtain ⟨y, hp, hy⟩ := pb_i h
    cases hy
    exact Or.inl ⟨pName_wf hp, rfl⟩
theorem pCond_wf {t : Int → Int} {m : Int} {σ : Tk} {x : JT × Tk} (h : pCond t m σ = .inr x) : (x.1.1 = 1853189228 ∨ x.1.1 = 61 ∨ x.1.1 = 60 ∨ x.1.1 = 62) ∧ 0 ≤ x.1.2.1 ∧ x.1.2.1 < m ∧ 0 ≤ x.1.2.2 ∧ x.1.2.2 ≤ 9999 := by
  unfold pCond at h
  split at h
  · split at h
    · obtain ⟨y, hp, hy⟩ := pb_i h
      obtain ⟨-, -, y3, y4, -⟩ := pNum_i hp
      cases hy
      exact ⟨Or.inl rfl, y4, y3, Int.le_refl 0, show (0 : Int) ≤ 9999 by decide⟩
    · cases h
  · split at h
    · obtain ⟨y, hp, hy⟩ := pb_i h
      obtain ⟨-, -, y3, y4, -⟩ := pNum_i hp
      split at hy
      · next n1 =>
        obtain ⟨w, hw, hw2⟩ := pb_i hy
        obtain ⟨-, -, w3, w4⟩ := pIs_i hw
        cases hw2
        exact ⟨Or.inr n1, y4, y3, w3, w4⟩
      · cases hy
    · cases h
theorem pMap_wf {t : Int → Int} {D : DT} {b : Int} {x : MT × Tk} (h : pMap t D b = .inr x) : wfM D x.1 := by
  unfold pMap at h
  obtain ⟨y, hy, h⟩ := pb_i h
  obtain ⟨z, hz, h⟩ := pb_i h
  obtain ⟨p, hp, h⟩ := pb_i h
  obtain ⟨q, hq, h⟩ := pb_i h
  obtain ⟨l, hl, h⟩ := pb_i h
  obtain ⟨o, ho, h⟩ := pb_i h
  obtain ⟨c, hc, h⟩ := pb_i h
  obtain ⟨g, hg, h⟩ := pb_i h
  split at h
  · cases h
    obtain ⟨-, -, y3, y4, -⟩ := pNum_i hy
    refine ⟨⟨y4, y3⟩, pName_wf hp, ⟨pcs_wf hl, rfl⟩, pObj_wf ho, ?_, ?_⟩
    · split at hc
      · exact Or.inr (pCond_wf hc)
      · cases hc
        exact Or.inl rfl
    · split at hg
      · unfold pGra at hg
        obtain ⟨w, hw, hw2⟩ := pb_i hg
        obtain ⟨-, -, w3, w4, -⟩ := pNum_i hw
        cases hw2
        exact ⟨by dsimp only; omega, w3⟩
      · cases hg
        exact ⟨show (-1 : Int) ≤ -1 by decide, show (-1 : Int) < 10 by decide⟩
  · cases h
