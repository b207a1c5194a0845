-- the sources over the fixed layout: how many; columns, rows, there, cells
abbrev DT : Type := Int × (Int → Int) × (Int → Int) × (Int → Int) × (Int → Int)
abbrev DD (fi : Nat → Nat → Int) (ai : Nat → Int → Int) : DT := (fi 10 17, ai 18, ai 19, ai 20, ai 21)
def DI (D : DT) : Prop := (0 ≤ D.1 ∧ D.1 ≤ 4) ∧ (∀ i, 0 ≤ i → i < 4 → 0 ≤ D.2.1 i ∧ D.2.1 i ≤ 4) ∧ (∀ i, 0 ≤ i → i < 4 → 0 ≤ D.2.2.1 i ∧ D.2.2.1 i ≤ 16) ∧ (∀ i, 0 ≤ i → i < 64 → D.2.2.2.1 i = 0 ∨ D.2.2.2.1 i = 1) ∧ (∀ i, 0 ≤ i → i < 256 → -1 ≤ D.2.2.2.2 i ∧ D.2.2.2.2 i ≤ 9999) ∧ (∀ i, 0 ≤ i → i < D.1 → 1 ≤ D.2.1 i) ∧ (∀ i, D.1 ≤ i → i < 4 → D.2.2.1 i = 0)
def co (D : DT) (x : Int) : Int := if x < 0 ∨ D.1 ≤ x then 0 else D.2.1 x
def ro (D : DT) (x : Int) : Int := if x < 0 ∨ D.1 ≤ x then 0 else D.2.2.1 x
def ce (D : DT) (x y z : Int) : Int := if 0 ≤ y ∧ y < ro D x ∧ 0 ≤ z ∧ z < co D x then D.2.2.2.2 ((x * 16 + y) * 4 + z) else -1
def th (D : DT) (x y : Int) : Int := if 0 ≤ y ∧ y < ro D x then D.2.2.2.1 (x * 16 + y) else 0
theorem ro_in {D : DT} (x : Int) (hI : DI D) : 0 ≤ ro D x ∧ ro D x ≤ 16 ∧ (0 < ro D x → 0 ≤ x ∧ x < 4 ∧ x < D.1 ∧ ro D x = D.2.2.1 x) := by
  obtain ⟨i0, i1, i2, i3, i4, i5, i6⟩ := hI
  unfold ro
  by_cases q : x < 0 ∨ D.1 ≤ x
  · rw [if_pos q]
    omega
  · rw [if_neg q]
    have := i2 x (by omega) (by omega)
    refine ⟨this.1, this.2, fun _ => ⟨by omega, by omega, by omega, rfl⟩⟩
theorem co_in {D : DT} (x : Int) (hI : DI D) : 0 ≤ co D x ∧ co D x ≤ 4 ∧ (0 < co D x → 0 ≤ x ∧ x < 4 ∧ x < D.1 ∧ co D x = D.2.1 x) := by
  obtain ⟨i0, i1, i2, i3, i4, i5, i6⟩ := hI
  unfold co
  by_cases q : x < 0 ∨ D.1 ≤ x
  · rw [if_pos q]
    omega
  · rw [if_neg q]
    have := i1 x (by omega) (by omega)
    refine ⟨this.1, this.2, fun _ => ⟨by omega, by omega, by omega, rfl⟩⟩
set_option maxHeartbeats 400000 in
set_option maxRecDepth 100000 in
theorem c_So_columnsOf (d L B1 B2 : Nat) (fi : Nat → Nat → Int) (ai aj : Nat → Int → Int) (x : Int) (hx : am_R x) (hI : DI (DD fi ai)) : am_M am_prog (d + 1) m_So_columnsOf [.inr (.inr 17), .inl x] (HH L B1 B2 fi ai aj) (fun v h' => v = some (.inl (co (DD fi ai) x)) ∧ h' = HH L B1 B2 fi ai aj) := by
  obtain ⟨i0, i1, i2, i3, i4, i5, i6⟩ := hI
  refine am_W.of rfl rfl ?_
  refine am_W.br rfl rfl (by and_intros <;> first | trivial | exact okI rfl rfl rfl | (refine okrI rfl rfl rfl rfl ?_ ?_ <;> (first | omega | (simp only [HS, FRS, CCS, am_R] at *; omega))) | (refine okaI rfl rfl rfl rfl ?_ ?_ <;> (first | omega | (simp only [HS, FRS, CCS, am_R] at *; omega))) | (first | omega | (simp only [HS, FRS, CCS, am_R] at *; omega))) (fun c1 => ?_) (fun c1 => ?_)
  · refine am_W.rt rfl rfl (by and_intros <;> first | trivial | exact okI rfl rfl rfl | (refine okrI rfl rfl rfl rfl ?_ ?_ <;> (first | omega | (simp only [HS, FRS, CCS, am_R] at *; omega))) | (refine okaI rfl rfl rfl rfl ?_ ?_ <;> (first | omega | (simp only [HS, FRS, CCS, am_R] at *; omega))) | (first | omega | (simp only [HS, FRS, CCS, am_R] at *; omega))) ⟨?_, rfl⟩
    rw [co, if_pos (Or.inl c1)]
  · refine am_W.br rfl rfl (by and_intros <;> first | trivial | exact okI rfl rfl rfl | (refine okrI rfl rfl rfl rfl ?_ ?_ <;> (first | omega | (simp only [HS, FRS, CCS, am_R] at *; omega))) | (refine okaI rfl rfl rfl rfl ?_ ?_ <;> (first | omega | (simp only [HS, FRS, CCS, am_R] at *; omega))) | (first | omega | (simp only [HS, FRS, CCS, am_R] at *; omega))) (fun c2 => ?_) (fun c2 => ?_)
    · refine am_W.rt rfl rfl (by and_intros <;> first | trivial | exact okI rfl rfl rfl | (refine okrI rfl rfl rfl rfl ?_ ?_ <;> (first | omega | (simp only [HS, FRS, CCS, am_R] at *; omega))) | (refine okaI rfl rfl rfl rfl ?_ ?_ <;> (first | omega | (simp only [HS, FRS, CCS, am_R] at *; omega))) | (first | omega | (simp only [HS, FRS, CCS, am_R] at *; omega))) ⟨?_, rfl⟩
      rw [co, if_neg (by (first | omega | (simp only [HS, FRS, CCS, am_R] at *; omega)))]
      rfl
    · refine am_W.rt rfl rfl (by and_intros <;> first | trivial | exact okI rfl rfl rfl | (refine okrI rfl rfl rfl rfl ?_ ?_ <;> (first | omega | (simp only [HS, FRS, CCS, am_R] at *; omega))) | (refine okaI rfl rfl rfl rfl ?_ ?_ <;> (first | omega | (simp only [HS, FRS, CCS, am_R] at *; omega))) | (first | omega | (simp only [HS, FRS, CCS, am_R] at *; omega))) ⟨?_, rfl⟩
      rw [co, if_pos (by (first | omega | (simp only [HS, FRS, CCS, am_R] at *; omega)))]
set_option maxHeartbeats 400000 in
set_option maxRecDepth 100000 in
theorem c_So_rowsOf (d L B1 B2 : Nat) (fi : Nat → Nat → Int) (ai aj : Nat → Int → Int) (x : Int) (hx : am_R x) (hI : DI (DD fi ai)) : am_M am_prog (d + 1) m_So_rowsOf [.inr (.inr 17), .inl x] (HH L B1 B2 fi ai aj) (fun v h' => v = some (.inl (ro (DD fi ai) x)) ∧ h' = HH L B1 B2 fi ai aj) := by
  obtain ⟨i0, i1, i2, i3, i4, i5, i6⟩ := hI
  refine am_W.of rfl rfl ?_
  refine am_W.br rfl rfl (by and_intros <;> first | trivial | exact okI rfl rfl rfl | (refine okrI rfl rfl rfl rfl ?_ ?_ <;> (first | omega | (simp only [HS, FRS, CCS, am_R] at *; omega))) | (refine okaI rfl rfl rfl rfl ?_ ?_ <;> (first | omega | (simp only [HS, FRS, CCS, am_R] at *; omega))) | (first | omega | (simp only [HS, FRS, CCS, am_R] at *; omega))) (fun c1 => ?_) (fun c1 => ?_)
  · refine am_W.rt rfl rfl (by and_intros <;> first | trivial | exact okI rfl rfl rfl | (refine okrI rfl rfl rfl rfl ?_ ?_ <;> (first | omega | (simp only [HS, FRS, CCS, am_R] at *; omega))) | (refine okaI rfl rfl rfl rfl ?_ ?_ <;> (first | omega | (simp only [HS, FRS, CCS, am_R] at *; omega))) | (first | omega | (simp only [HS, FRS, CCS, am_R] at *; omega))) ⟨?_, rfl⟩
    rw [ro, if_pos (Or.inl c1)]
  · refine am_W.br rfl rfl (by and_intros <;> first | trivial | exact okI rfl rfl rfl | (refine okrI rfl rfl rfl rfl ?_ ?_ <;> (first | omega | (simp only [HS, FRS, CCS, am_R] at *; omega))) | (refine okaI rfl rfl rfl rfl ?_ ?_ <;> (first | omega | (simp only [HS, FRS, CCS, am_R] at *; omega))) | (first | omega | (simp only [HS, FRS, CCS, am_R] at *; omega))) (fun c2 => ?_) (fun c2 => ?_)
    · refine am_W.rt rfl rfl (by and_intros <;> first | trivial | exact okI rfl rfl rfl | (refine okrI rfl rfl rfl rfl ?_ ?_ <;> (first | omega | (simp only [HS, FRS, CCS, am_R] at *; omega))) | (refine okaI rfl rfl rfl rfl ?_ ?_ <;> (first | omega | (simp only [HS, FRS, CCS, am_R] at *; omega))) | (first | omega | (simp only [HS, FRS, CCS, am_R] at *; omega))) ⟨?_, rfl⟩
      rw [ro, if_neg (by (first | omega | (simp only [HS, FRS, CCS, am_R] at *; omega)))]
      rfl
    · refine am_W.rt rfl rfl (by and_intros <;> first | trivial | exact okI rfl rfl rfl | (refine okrI rfl rfl rfl rfl ?_ ?_ <;> (first | omega | (simp only [HS, FRS, CCS, am_R] at *; omega))) | (refine okaI rfl rfl rfl rfl ?_ ?_ <;> (first | omega | (simp only [HS, FRS, CCS, am_R] at *; omega))) | (first | omega | (simp only [HS, FRS, CCS, am_R] at *; omega))) ⟨?_, rfl⟩
      rw [ro, if_pos (by (first | omega | (simp only [HS, FRS, CCS, am_R] at *; omega)))]
set_option maxHeartbeats 400000 in
set_option maxRecDepth 100000 in
theorem c_So_hasRow (d L B1 B2 : Nat) (fi : Nat → Nat → Int) (ai aj : Nat → Int → Int) (x y : Int) (hx : am_R x) (hy : am_R y) (hI : DI (DD fi ai)) : am_M am_prog (d + 2) m_So_hasRow [.inr (.inr 17), .inl x, .inl y] (HH L B1 B2 fi ai aj) (fun v h' => v = some (.inl (if 0 ≤ y ∧ y < ro (DD fi ai) x then 1 else 0)) ∧ h' = HH L B1 B2 fi ai aj) := by
  have hr := ro_in x hI
  refine am_W.of rfl rfl ?_
  refine am_W.br rfl rfl (by and_intros <;> first | trivial | exact okI rfl rfl rfl | (refine okrI rfl rfl rfl rfl ?_ ?_ <;> (first | omega | (simp only [HS, FRS, CCS, am_R] at *; omega))) | (refine okaI rfl rfl rfl rfl ?_ ?_ <;> (first | omega | (simp only [HS, FRS, CCS, am_R] at *; omega))) | (first | omega | (simp only [HS, FRS, CCS, am_R] at *; omega))) (fun c1 => ?_) (fun c1 => ?_)
  · refine am_W.rt rfl rfl (by and_intros <;> first | trivial | exact okI rfl rfl rfl | (refine okrI rfl rfl rfl rfl ?_ ?_ <;> (first | omega | (simp only [HS, FRS, CCS, am_R] at *; omega))) | (refine okaI rfl rfl rfl rfl ?_ ?_ <;> (first | omega | (simp only [HS, FRS, CCS, am_R] at *; omega))) | (first | omega | (simp only [HS, FRS, CCS, am_R] at *; omega))) ⟨?_, rfl⟩
    rw [if_neg (by omega)]
  · refine am_W.cv 1 m_So_rowsOf rfl rfl rfl rfl (by and_intros <;> first | trivial | exact okI rfl rfl rfl | (refine okrI rfl rfl rfl rfl ?_ ?_ <;> (first | omega | (simp only [HS, FRS, CCS, am_R] at *; omega))) | (refine okaI rfl rfl rfl rfl ?_ ?_ <;> (first | omega | (simp only [HS, FRS, CCS, am_R] at *; omega))) | (first | omega | (simp only [HS, FRS, CCS, am_R] at *; omega))) (c_So_rowsOf d L B1 B2 fi ai aj x hx hI) ?_
    rintro r1 h1 ⟨rfl, rfl⟩
    refine am_W.br rfl rfl (by and_intros <;> first | trivial | exact okI rfl rfl rfl | (refine okrI rfl rfl rfl rfl ?_ ?_ <;> (first | omega | (simp only [HS, FRS, CCS, am_R] at *; omega))) | (refine okaI rfl rfl rfl rfl ?_ ?_ <;> (first | omega | (simp only [HS, FRS, CCS, am_R] at *; omega))) | (first | omega | (simp only [HS, FRS, CCS, am_R] at *; omega))) (fun c2 => ?_) (fun c2 => ?_)
    · refine am_W.rt rfl rfl (by and_intros <;> first | trivial | exact okI rfl rfl rfl | (refine okrI rfl rfl rfl rfl ?_ ?_ <;> (first | omega | (simp only [HS, FRS, CCS, am_R] at *; omega))) | (refine okaI rfl rfl rfl rfl ?_ ?_ <;> (first | omega | (simp only [HS, FRS, CCS, am_R] at *; omega))) | (first | omega | (simp only [HS, FRS, CCS, am_R] at *; omega))) ⟨?_, rfl⟩
      rw [if_neg (by omega)]
    · refine am_W.rt rfl rfl (by and_intros <;> first | trivial | exact okI rfl rfl rfl | (refine okrI rfl rfl rfl rfl ?_ ?_ <;> (first | omega | (simp only [HS, FRS, CCS, am_R] at *; omega))) | (refine okaI rfl rfl rfl rfl ?_ ?_ <;> (first | omega | (simp only [HS, FRS, CCS, am_R] at *; omega))) | (first | omega | (simp only [HS, FRS, CCS, am_R] at *; omega))) ⟨?_, rfl⟩
      rw [if_pos (by omega)]
set_option maxHeartbeats 400000 in
set_option maxRecDepth 100000 in
theorem c_So_addSource (d L B1 B2 : Nat) (fi : Nat → Nat → Int) (ai aj : Nat → Int → Int) (x : Int) (hI : DI (DD fi ai)) : am_M am_prog (d + 1) m_So_addSource [.inr (.inr 17), .inl x] (HH L B1 B2 fi ai aj) (fun v h' => (4 ≤ fi 10 17 ∧ v = some (.inl (-2)) ∧ h' = HH L B1 B2 fi ai aj) ∨ (fi 10 17 < 4 ∧ v = some (.inl (fi 10 17)) ∧ h' = HH L B1 B2 (am_u2 fi 10 17 (fi 10 17 + 1)) (am_u2 ai 18 (fi 10 17) x) aj)) := by
  obtain ⟨i0, i1, i2, i3, i4, i5, i6⟩ := hI
  refine am_W.of rfl rfl ?_
  refine am_W.br rfl rfl (by and_intros <;> first | trivial | exact okI rfl rfl rfl | (refine okrI rfl rfl rfl rfl ?_ ?_ <;> (first | omega | (simp only [HS, FRS, CCS, am_R] at *; omega))) | (refine okaI rfl rfl rfl rfl ?_ ?_ <;> (first | omega | (simp only [HS, FRS, CCS, am_R] at *; omega))) | (first | omega | (simp only [HS, FRS, CCS, am_R] at *; omega))) (fun c1 => ?_) (fun c1 => ?_)
  · simp only [HS] at c1
    refine am_W.rt rfl rfl (by and_intros <;> first | trivial | exact okI rfl rfl rfl | (refine okrI rfl rfl rfl rfl ?_ ?_ <;> (first | omega | (simp only [HS, FRS, CCS, am_R] at *; omega))) | (refine okaI rfl rfl rfl rfl ?_ ?_ <;> (first | omega | (simp only [HS, FRS, CCS, am_R] at *; omega))) | (first | omega | (simp only [HS, FRS, CCS, am_R] at *; omega))) (Or.inr ⟨c1, ?_, rfl⟩)
    simp only [HS, u2s]
    congr 2
    omega
  · refine am_W.rt rfl rfl (by and_intros <;> first | trivial | exact okI rfl rfl rfl | (refine okrI rfl rfl rfl rfl ?_ ?_ <;> (first | omega | (simp only [HS, FRS, CCS, am_R] at *; omega))) | (refine okaI rfl rfl rfl rfl ?_ ?_ <;> (first | omega | (simp only [HS, FRS, CCS, am_R] at *; omega))) | (first | omega | (simp only [HS, FRS, CCS, am_R] at *; omega))) (Or.inl ⟨by (first | omega | (simp only [HS, FRS, CCS, am_R] at *; omega)), rfl, rfl⟩)
set_option maxHeartbeats 400000 in
set_option maxRecDepth 100000 in
theorem c_So_addRow (d L B1 B2 : Nat) (fi : Nat → Nat → Int) (ai aj : Nat → Int → Int) (x : Int) (hx : am_R x) (hI : DI (DD fi ai)) : am_M am_prog (d + 1) m_So_addRow [.inr (.inr 17), .inl x] (HH L B1 B2 fi ai aj) (fun v h' => ((x < 0 ∨ fi 10 17 ≤ x ∨ 16 ≤ ai 19 x) ∧ v = some (.inl (-1)) ∧ h' = HH L B1 B2 fi ai aj) ∨ (0 ≤ x ∧ x < fi 10 17 ∧ ai 19 x < 16 ∧ v = some (.inl (ai 19 x)) ∧ h' = HH L B1 B2 fi (am_u2 (am_u2 ai 19 x (ai 19 x + 1)) 20 (x * 16 + ai 19 x) 1) aj)) := by
  obtain ⟨i0, i1, i2, i3, i4, i5, i6⟩ := hI
  refine am_W.of rfl rfl ?_
  refine am_W.br rfl rfl (by and_intros <;> first | trivial | exact okI rfl rfl rfl | (refine okrI rfl rfl rfl rfl ?_ ?_ <;> (first | omega | (simp only [HS, FRS, CCS, am_R] at *; omega))) | (refine okaI rfl rfl rfl rfl ?_ ?_ <;> (first | omega | (simp only [HS, FRS, CCS, am_R] at *; omega))) | (first | omega | (simp only [HS, FRS, CCS, am_R] at *; omega))) (fun c1 => ?_) (fun c1 => ?_)
  · exact am_W.rt rfl rfl (by and_intros <;> first | trivial | exact okI rfl rfl rfl | (refine okrI rfl rfl rfl rfl ?_ ?_ <;> (first | omega | (simp only [HS, FRS, CCS, am_R] at *; omega))) | (refine okaI rfl rfl rfl rfl ?_ ?_ <;> (first | omega | (simp only [HS, FRS, CCS, am_R] at *; omega))) | (first | omega | (simp only [HS, FRS, CCS, am_R] at *; omega))) (Or.inl ⟨Or.inl c1, rfl, rfl⟩)
  · refine am_W.br rfl rfl (by and_intros <;> first | trivial | exact okI rfl rfl rfl | (refine okrI rfl rfl rfl rfl ?_ ?_ <;> (first | omega | (simp only [HS, FRS, CCS, am_R] at *; omega))) | (refine okaI rfl rfl rfl rfl ?_ ?_ <;> (first | omega | (simp only [HS, FRS, CCS, am_R] at *; omega))) | (first | omega | (simp only [HS, FRS, CCS, am_R] at *; omega))) (fun c2 => ?_) (fun c2 => ?_)
    · exact am_W.rt rfl rfl (by and_intros <;> first | trivial | exact okI rfl rfl rfl | (refine okrI rfl rfl rfl rfl ?_ ?_ <;> (first | omega | (simp only [HS, FRS, CCS, am_R] at *; omega))) | (refine okaI rfl rfl rfl rfl ?_ ?_ <;> (first | omega | (simp only [HS, FRS, CCS, am_R] at *; omega))) | (first | omega | (simp only [HS, FRS, CCS, am_R] at *; omega))) (Or.inl ⟨by (first | omega | (simp only [HS, FRS, CCS, am_R] at *; omega)), rfl, rfl⟩)
    · have hq := i2 x (by omega) (by (first | omega | (simp only [HS, FRS, CCS, am_R] at *; omega)))
      simp only [HS] at c2 hq
      refine am_W.br rfl rfl (by and_intros <;> first | trivial | exact okI rfl rfl rfl | (refine okrI rfl rfl rfl rfl ?_ ?_ <;> (first | omega | (simp only [HS, FRS, CCS, am_R] at *; omega))) | (refine okaI rfl rfl rfl rfl ?_ ?_ <;> (first | omega | (simp only [HS, FRS, CCS, am_R] at *; omega))) | (first | omega | (simp only [HS, FRS, CCS, am_R] at *; omega))) (fun c3 => ?_) (fun c3 => ?_)
      · simp only [HS, FRS] at c3
        exact am_W.rt rfl rfl (by and_intros <;> first | trivial | exact okI rfl rfl rfl | (refine okrI rfl rfl rfl rfl ?_ ?_ <;> (first | omega | (simp only [HS, FRS, CCS, am_R] at *; omega))) | (refine okaI rfl rfl rfl rfl ?_ ?_ <;> (first | omega | (simp only [HS, FRS, CCS, am_R] at *; omega))) | (first | omega | (simp only [HS, FRS, CCS, am_R] at *; omega))) (Or.inr ⟨by omega, by omega, c3, rfl, rfl⟩)
      · simp only [HS, FRS] at c3
        exact am_W.rt rfl rfl (by and_intros <;> first | trivial | exact okI rfl rfl rfl | (refine okrI rfl rfl rfl rfl ?_ ?_ <;> (first | omega | (simp only [HS, FRS, CCS, am_R] at *; omega))) | (refine okaI rfl rfl rfl rfl ?_ ?_ <;> (first | omega | (simp only [HS, FRS, CCS, am_R] at *; omega))) | (first | omega | (simp only [HS, FRS, CCS, am_R] at *; omega))) (Or.inl ⟨by omega, rfl, rfl⟩)
set_option maxHeartbeats 400000 in
set_option maxRecDepth 100000 in
theorem c_So_isThere (d L B1 B2 : Nat) (fi : Nat → Nat → Int) (ai aj : Nat → Int → Int) (x y : Int) (hx : am_R x) (hy : am_R y) (hI : DI (DD fi ai)) : am_M am_prog (d + 3) m_So_isThere [.inr (.inr 17), .inl x, .inl y] (HH L B1 B2 fi ai aj) (fun v h' => v = some (.inl (th (DD fi ai) x y)) ∧ h' = HH L B1 B2 fi ai aj) := by
  have hr := ro_in x hI
  obtain ⟨i0, i1, i2, i3, i4, i5, i6⟩ := id hI
  refine am_W.of rfl rfl ?_
  refine am_W.cv 1 m_So_hasRow rfl rfl rfl rfl (by and_intros <;> first | trivial | exact okI rfl rfl rfl | (refine okrI rfl rfl rfl rfl ?_ ?_ <;> (first | omega | (simp only [HS, FRS, CCS, am_R] at *; omega))) | (refine okaI rfl rfl rfl rfl ?_ ?_ <;> (first | omega | (simp only [HS, FRS, CCS, am_R] at *; omega))) | (first | omega | (simp only [HS, FRS, CCS, am_R] at *; omega))) (c_So_hasRow d L B1 B2 fi ai aj x y hx hy hI) ?_
  rintro r1 h1 ⟨rfl, rfl⟩
  unfold th
  by_cases hq : 0 ≤ y ∧ y < ro (DD fi ai) x
  · rw [if_pos hq, if_pos hq]
    have ht : ai 20 (x * 16 + y) = 0 ∨ ai 20 (x * 16 + y) = 1 := i3 (x * 16 + y) (by omega) (by omega)
    refine am_W.br rfl rfl (by and_intros <;> first | trivial | exact okI rfl rfl rfl | (refine okrI rfl rfl rfl rfl ?_ ?_ <;> (first | omega | (simp only [HS, FRS, CCS, am_R] at *; omega))) | (refine okaI rfl rfl rfl rfl ?_ ?_ <;> (first | omega | (simp only [HS, FRS, CCS, am_R] at *; omega))) | (first | omega | (simp only [HS, FRS, CCS, am_R] at *; omega))) (fun c1 => absurd c1 (by decide)) (fun c1 => ?_)
    refine am_W.br rfl rfl (by and_intros <;> first | trivial | exact okI rfl rfl rfl | (refine okrI rfl rfl rfl rfl ?_ ?_ <;> (first | omega | (simp only [HS, FRS, CCS, am_R] at *; omega))) | (refine okaI rfl rfl rfl rfl ?_ ?_ <;> (first | omega | (simp only [HS, FRS, CCS, am_R] at *; omega))) | (first | omega | (simp only [HS, FRS, CCS, am_R] at *; omega))) (fun c2 => ?_) (fun c2 => ?_)
    · simp only [HS, FRS] at c2
      refine am_W.rt rfl rfl (by and_intros <;> first | trivial | exact okI rfl rfl rfl | (refine okrI rfl rfl rfl rfl ?_ ?_ <;> (first | omega | (simp only [HS, FRS, CCS, am_R] at *; omega))) | (refine okaI rfl rfl rfl rfl ?_ ?_ <;> (first | omega | (simp only [HS, FRS, CCS, am_R] at *; omega))) | (first | omega | (simp only [HS, FRS, CCS, am_R] at *; omega))) ⟨?_, rfl⟩
      rw [← c2]
    · simp only [HS, FRS] at c2
      refine am_W.rt rfl rfl (by and_intros <;> first | trivial | exact okI rfl rfl rfl | (refine okrI rfl rfl rfl rfl ?_ ?_ <;> (first | omega | (simp only [HS, FRS, CCS, am_R] at *; omega))) | (refine okaI rfl rfl rfl rfl ?_ ?_ <;> (first | omega | (simp only [HS, FRS, CCS, am_R] at *; omega))) | (first | omega | (simp only [HS, FRS, CCS, am_R] at *; omega))) ⟨?_, rfl⟩
      rw [← ht.resolve_left c2]
  · rw [if_neg hq, if_neg hq]
    refine am_W.br rfl rfl (by and_intros <;> first | trivial | exact okI rfl rfl rfl | (refine okrI rfl rfl rfl rfl ?_ ?_ <;> (first | omega | (simp only [HS, FRS, CCS, am_R] at *; omega))) | (refine okaI rfl rfl rfl rfl ?_ ?_ <;> (first | omega | (simp only [HS, FRS, CCS, am_R] at *; omega))) | (first | omega | (simp only [HS, FRS, CCS, am_R] at *; omega))) (fun c1 => ?_) (fun c1 => absurd rfl c1)
    exact am_W.rt rfl rfl (by and_intros <;> first | trivial | exact okI rfl rfl rfl | (refine okrI rfl rfl rfl rfl ?_ ?_ <;> (first | omega | (simp only [HS, FRS, CCS, am_R] at *; omega))) | (refine okaI rfl rfl rfl rfl ?_ ?_ <;> (first | omega | (simp only [HS, FRS, CCS, am_R] at *; omega))) | (first | omega | (simp only [HS, FRS, CCS, am_R] at *; omega))) ⟨rfl, rfl⟩
set_option maxHeartbeats 400000 in
set_option maxRecDepth 100000 in
theorem c_So_setThere (d L B1 B2 : Nat) (fi : Nat → Nat → Int) (ai aj : Nat → Int → Int) (x y v : Int) (hx : am_R x) (hy : am_R y) (hv : v = 0 ∨ v = 1) (hI : DI (DD fi ai)) (hq : 0 ≤ y ∧ y < ro (DD fi ai) x) : am_M am_prog (d + 3) m_So_setThere [.inr (.inr 17), .inl x, .inl y, .inl v] (HH L B1 B2 fi ai aj) (fun w h' => w = none ∧ h' = HH L B1 B2 fi (am_u2 ai 20 (x * 16 + y) v) aj) := by
  have hr := ro_in x hI
  refine am_W.of rfl rfl ?_
  refine am_W.cv 1 m_So_hasRow rfl rfl rfl rfl (by and_intros <;> first | trivial | exact okI rfl rfl rfl | (refine okrI rfl rfl rfl rfl ?_ ?_ <;> (first | omega | (simp only [HS, FRS, CCS, am_R] at *; omega))) | (refine okaI rfl rfl rfl rfl ?_ ?_ <;> (first | omega | (simp only [HS, FRS, CCS, am_R] at *; omega))) | (first | omega | (simp only [HS, FRS, CCS, am_R] at *; omega))) (c_So_hasRow d L B1 B2 fi ai aj x y hx hy hI) ?_
  rintro r1 h1 ⟨rfl, rfl⟩
  rw [if_pos hq]
  refine am_W.br rfl rfl (by and_intros <;> first | trivial | exact okI rfl rfl rfl | (refine okrI rfl rfl rfl rfl ?_ ?_ <;> (first | omega | (simp only [HS, FRS, CCS, am_R] at *; omega))) | (refine okaI rfl rfl rfl rfl ?_ ?_ <;> (first | omega | (simp only [HS, FRS, CCS, am_R] at *; omega))) | (first | omega | (simp only [HS, FRS, CCS, am_R] at *; omega))) (fun c1 => absurd c1 (by decide)) (fun c1 => ?_)
  exact am_W.rt rfl rfl (by and_intros <;> first | trivial | exact okI rfl rfl rfl | (refine okrI rfl rfl rfl rfl ?_ ?_ <;> (first | omega | (simp only [HS, FRS, CCS, am_R] at *; omega))) | (refine okaI rfl rfl rfl rfl ?_ ?_ <;> (first | omega | (simp only [HS, FRS, CCS, am_R] at *; omega))) | (first | omega | (simp only [HS, FRS, CCS, am_R] at *; omega))) ⟨rfl, rfl⟩
def cx (D : DT) (x y z : Int) : Int := if 0 ≤ y ∧ y < ro D x ∧ 0 ≤ z ∧ z < co D x then (x * 16 + y) * 4 + z else -1
set_option maxHeartbeats 400000 in
set_option maxRecDepth 100000 in
theorem c_So_cellIndex (d L B1 B2 : Nat) (fi : Nat → Nat → Int) (ai aj : Nat → Int → Int) (x y z : Int) (hx : am_R x) (hy : am_R y) (hz : am_R z) (hI : DI (DD fi ai)) : am_M am_prog (d + 1) m_So_cellIndex [.inr (.inr 17), .inl x, .inl y, .inl z] (HH L B1 B2 fi ai aj) (fun v h' => v = some (.inl (cx (DD fi ai) x y z)) ∧ h' = HH L B1 B2 fi ai aj) := by
  obtain ⟨i0, i1, i2, i3, i4, i5, i6⟩ := hI
  have hro : ro (DD fi ai) x = if x < 0 ∨ fi 10 17 ≤ x then 0 else ai 19 x := rfl
  have hco : co (DD fi ai) x = if x < 0 ∨ fi 10 17 ≤ x then 0 else ai 18 x := rfl
  refine am_W.of rfl rfl ?_
  unfold cx
  refine am_W.br rfl rfl (by and_intros <;> first | trivial | exact okI rfl rfl rfl | (refine okrI rfl rfl rfl rfl ?_ ?_ <;> (first | omega | (simp only [HS, FRS, CCS, am_R] at *; omega))) | (refine okaI rfl rfl rfl rfl ?_ ?_ <;> (first | omega | (simp only [HS, FRS, CCS, am_R] at *; omega))) | (first | omega | (simp only [HS, FRS, CCS, am_R] at *; omega))) (fun c1 => ?_) (fun c1 => ?_)
  · refine am_W.rt rfl rfl (by and_intros <;> first | trivial | exact okI rfl rfl rfl | (refine okrI rfl rfl rfl rfl ?_ ?_ <;> (first | omega | (simp only [HS, FRS, CCS, am_R] at *; omega))) | (refine okaI rfl rfl rfl rfl ?_ ?_ <;> (first | omega | (simp only [HS, FRS, CCS, am_R] at *; omega))) | (first | omega | (simp only [HS, FRS, CCS, am_R] at *; omega))) ⟨?_, rfl⟩
    rw [if_pos (Or.inl c1)] at hro
    rw [if_neg (by omega)]
  · refine am_W.br rfl rfl (by and_intros <;> first | trivial | exact okI rfl rfl rfl | (refine okrI rfl rfl rfl rfl ?_ ?_ <;> (first | omega | (simp only [HS, FRS, CCS, am_R] at *; omega))) | (refine okaI rfl rfl rfl rfl ?_ ?_ <;> (first | omega | (simp only [HS, FRS, CCS, am_R] at *; omega))) | (first | omega | (simp only [HS, FRS, CCS, am_R] at *; omega))) (fun c2 => ?_) (fun c2 => ?_)
    · refine am_W.rt rfl rfl (by and_intros <;> first | trivial | exact okI rfl rfl rfl | (refine okrI rfl rfl rfl rfl ?_ ?_ <;> (first | omega | (simp only [HS, FRS, CCS, am_R] at *; omega))) | (refine okaI rfl rfl rfl rfl ?_ ?_ <;> (first | omega | (simp only [HS, FRS, CCS, am_R] at *; omega))) | (first | omega | (simp only [HS, FRS, CCS, am_R] at *; omega))) ⟨?_, rfl⟩
      simp only [HS] at c2
      rw [if_pos (Or.inr c2)] at hro
      rw [if_neg (by omega)]
    · simp only [HS] at c2
      have hq1 := i1 x (by omega) (by (first | omega | (simp only [HS, FRS, CCS, am_R] at *; omega)))
      have hq2 := i2 x (by omega) (by (first | omega | (simp only [HS, FRS, CCS, am_R] at *; omega)))
      simp only [HS] at hq1 hq2
      rw [if_neg (by omega)] at hro hco
      refine am_W.br rfl rfl (by and_intros <;> first | trivial | exact okI rfl rfl rfl | (refine okrI rfl rfl rfl rfl ?_ ?_ <;> (first | omega | (simp only [HS, FRS, CCS, am_R] at *; omega))) | (refine okaI rfl rfl rfl rfl ?_ ?_ <;> (first | omega | (simp only [HS, FRS, CCS, am_R] at *; omega))) | (first | omega | (simp only [HS, FRS, CCS, am_R] at *; omega))) (fun c3 => ?_) (fun c3 => ?_)
      · refine am_W.rt rfl rfl (by and_intros <;> first | trivial | exact okI rfl rfl rfl | (refine okrI rfl rfl rfl rfl ?_ ?_ <;> (first | omega | (simp only [HS, FRS, CCS, am_R] at *; omega))) | (refine okaI rfl rfl rfl rfl ?_ ?_ <;> (first | omega | (simp only [HS, FRS, CCS, am_R] at *; omega))) | (first | omega | (simp only [HS, FRS, CCS, am_R] at *; omega))) ⟨?_, rfl⟩
        rw [if_neg (by omega)]
      · refine am_W.br rfl rfl (by and_intros <;> first | trivial | exact okI rfl rfl rfl | (refine okrI rfl rfl rfl rfl ?_ ?_ <;> (first | omega | (simp only [HS, FRS, CCS, am_R] at *; omega))) | (refine okaI rfl rfl rfl rfl ?_ ?_ <;> (first | omega | (simp only [HS, FRS, CCS, am_R] at *; omega))) | (first | omega | (simp only [HS, FRS, CCS, am_R] at *; omega))) (fun c4 => ?_) (fun c4 => ?_)
        · simp only [HS, FRS] at c4
          refine am_W.rt rfl rfl (by and_intros <;> first | trivial | exact okI rfl rfl rfl | (refine okrI rfl rfl rfl rfl ?_ ?_ <;> (first | omega | (simp only [HS, FRS, CCS, am_R] at *; omega))) | (refine okaI rfl rfl rfl rfl ?_ ?_ <;> (first | omega | (simp only [HS, FRS, CCS, am_R] at *; omega))) | (first | omega | (simp only [HS, FRS, CCS, am_R] at *; omega))) ⟨?_, rfl⟩
          rw [if_neg (by omega)]
        · simp only [HS, FRS] at c4
          refine am_W.br rfl rfl (by and_intros <;> first | trivial | exact okI rfl rfl rfl | (refine okrI rfl rfl rfl rfl ?_ ?_ <;> (first | omega | (simp only [HS, FRS, CCS, am_R] at *; omega))) | (refine okaI rfl rfl rfl rfl ?_ ?_ <;> (first | omega | (simp only [HS, FRS, CCS, am_R] at *; omega))) | (first | omega | (simp only [HS, FRS, CCS, am_R] at *; omega))) (fun c5 => ?_) (fun c5 => ?_)
          · refine am_W.rt rfl rfl (by and_intros <;> first | trivial | exact okI rfl rfl rfl | (refine okrI rfl rfl rfl rfl ?_ ?_ <;> (first | omega | (simp only [HS, FRS, CCS, am_R] at *; omega))) | (refine okaI rfl rfl rfl rfl ?_ ?_ <;> (first | omega | (simp only [HS, FRS, CCS, am_R] at *; omega))) | (first | omega | (simp only [HS, FRS, CCS, am_R] at *; omega))) ⟨?_, rfl⟩
            rw [if_neg (by omega)]
          · refine am_W.br rfl rfl (by and_intros <;> first | trivial | exact okI rfl rfl rfl | (refine okrI rfl rfl rfl rfl ?_ ?_ <;> (first | omega | (simp only [HS, FRS, CCS, am_R] at *; omega))) | (refine okaI rfl rfl rfl rfl ?_ ?_ <;> (first | omega | (simp only [HS, FRS, CCS, am_R] at *; omega))) | (first | omega | (simp only [HS, FRS, CCS, am_R] at *; omega))) (fun c6 => ?_) (fun c6 => ?_)
            · simp only [HS, FRS] at c6
              refine am_W.rt rfl rfl (by and_intros <;> first | trivial | exact okI rfl rfl rfl | (refine okrI rfl rfl rfl rfl ?_ ?_ <;> (first | omega | (simp only [HS, FRS, CCS, am_R] at *; omega))) | (refine okaI rfl rfl rfl rfl ?_ ?_ <;> (first | omega | (simp only [HS, FRS, CCS, am_R] at *; omega))) | (first | omega | (simp only [HS, FRS, CCS, am_R] at *; omega))) ⟨?_, rfl⟩
              rw [if_pos (by omega)]
            · simp only [HS, FRS] at c6
              refine am_W.rt rfl rfl (by and_intros <;> first | trivial | exact okI rfl rfl rfl | (refine okrI rfl rfl rfl rfl ?_ ?_ <;> (first | omega | (simp only [HS, FRS, CCS, am_R] at *; omega))) | (refine okaI rfl rfl rfl rfl ?_ ?_ <;> (first | omega | (simp only [HS, FRS, CCS, am_R] at *; omega))) | (first | omega | (simp only [HS, FRS, CCS, am_R] at *; omega))) ⟨?_, rfl⟩
              rw [if_neg (by omega)]
theorem cx_in {D : DT} (x y z : Int) (hI : DI D) : (cx D x y z = -1 ∧ ce D x y z = -1) ∨ (0 ≤ cx D x y z ∧ cx D x y z < 256 ∧ ce D x y z = D.2.2.2.2 (cx D x y z) ∧ cx D x y z = (x * 16 + y) * 4 + z ∧ -1 ≤ ce D x y z ∧ ce D x y z ≤ 9999) := by
  have hr := ro_in x hI
  have hc := co_in x hI
  obtain ⟨i0, i1, i2, i3, i4, i5, i6⟩ := hI
  unfold cx ce
  by_cases q : 0 ≤ y ∧ y < ro D x ∧ 0 ≤ z ∧ z < co D x
  · rw [if_pos q, if_pos q]
    have := i4 ((x * 16 + y) * 4 + z) (by omega) (by omega)
    exact Or.inr ⟨by omega, by omega, rfl, rfl, this.1, this.2⟩
  · rw [if_neg q, if_neg q]
    exact Or.inl ⟨rfl, rfl⟩
theorem ce_in {D : DT} (x y z : Int) (hI : DI D) : -1 ≤ ce D x y z ∧ ce D x y z ≤ 9999 := by
  have := cx_in x y z hI
  omega
set_option maxHeartbeats 400000 in
set_option maxRecDepth 100000 in
theorem c_So_cell (d L B1 B2 : Nat) (fi : Nat → Nat → Int) (ai aj : Nat → Int → Int) (x y z : Int) (hx : am_R x) (hy : am_R y) (hz : am_R z) (hI : DI (DD fi ai)) : am_M am_prog (d + 2) m_So_cell [.inr (.inr 17), .inl x, .inl y, .inl z] (HH L B1 B2 fi ai aj) (fun v h' => v = some (.inl (ce (DD fi ai) x y z)) ∧ h' = HH L B1 B2 fi ai aj) := by
  have hq := cx_in x y z hI
  refine am_W.of rfl rfl ?_
  refine am_W.cv 1 m_So_cellIndex rfl rfl rfl rfl (by and_intros <;> first | trivial | exact okI rfl rfl rfl | (refine okrI rfl rfl rfl rfl ?_ ?_ <;> (first | omega | (simp only [HS, FRS, CCS, am_R] at *; omega))) | (refine okaI rfl rfl rfl rfl ?_ ?_ <;> (first | omega | (simp only [HS, FRS, CCS, am_R] at *; omega))) | (first | omega | (simp only [HS, FRS, CCS, am_R] at *; omega))) (c_So_cellIndex d L B1 B2 fi ai aj x y z hx hy hz hI) ?_
  rintro r1 h1 ⟨rfl, rfl⟩
  refine am_W.br rfl rfl (by and_intros <;> first | trivial | exact okI rfl rfl rfl | (refine okrI rfl rfl rfl rfl ?_ ?_ <;> (first | omega | (simp only [HS, FRS, CCS, am_R] at *; omega))) | (refine okaI rfl rfl rfl rfl ?_ ?_ <;> (first | omega | (simp only [HS, FRS, CCS, am_R] at *; omega))) | (first | omega | (simp only [HS, FRS, CCS, am_R] at *; omega))) (fun c1 => ?_) (fun c1 => ?_)
  · refine am_W.rt rfl rfl (by and_intros <;> first | trivial | exact okI rfl rfl rfl | (refine okrI rfl rfl rfl rfl ?_ ?_ <;> (first | omega | (simp only [HS, FRS, CCS, am_R] at *; omega))) | (refine okaI rfl rfl rfl rfl ?_ ?_ <;> (first | omega | (simp only [HS, FRS, CCS, am_R] at *; omega))) | (first | omega | (simp only [HS, FRS, CCS, am_R] at *; omega))) ⟨?_, rfl⟩
    rw [(hq.resolve_left (by omega)).2.2.1]
    rfl
  · refine am_W.rt rfl rfl (by and_intros <;> first | trivial | exact okI rfl rfl rfl | (refine okrI rfl rfl rfl rfl ?_ ?_ <;> (first | omega | (simp only [HS, FRS, CCS, am_R] at *; omega))) | (refine okaI rfl rfl rfl rfl ?_ ?_ <;> (first | omega | (simp only [HS, FRS, CCS, am_R] at *; omega))) | (first | omega | (simp only [HS, FRS, CCS, am_R] at *; omega))) ⟨?_, rfl⟩
    rw [(hq.resolve_right (by omega)).2]
set_option maxHeartbeats 400000 in
set_option maxRecDepth 100000 in
theorem c_So_setCell (d L B1 B2 : Nat) (fi : Nat → Nat → Int) (ai aj : Nat → Int → Int) (x y z v : Int) (hx : am_R x) (hy : am_R y) (hz : am_R z) (hv : am_R v) (hI : DI (DD fi ai)) : am_M am_prog (d + 2) m_So_setCell [.inr (.inr 17), .inl x, .inl y, .inl z, .inl v] (HH L B1 B2 fi ai aj) (fun w h' => w = none ∧ h' = HH L B1 B2 fi (if cx (DD fi ai) x y z = -1 then ai else am_u2 ai 21 (cx (DD fi ai) x y z) (if v < 0 then -1 else v)) aj) := by
  have hq := cx_in x y z hI
  refine am_W.of rfl rfl ?_
  refine am_W.cv 1 m_So_cellIndex rfl rfl rfl rfl (by and_intros <;> first | trivial | exact okI rfl rfl rfl | (refine okrI rfl rfl rfl rfl ?_ ?_ <;> (first | omega | (simp only [HS, FRS, CCS, am_R] at *; omega))) | (refine okaI rfl rfl rfl rfl ?_ ?_ <;> (first | omega | (simp only [HS, FRS, CCS, am_R] at *; omega))) | (first | omega | (simp only [HS, FRS, CCS, am_R] at *; omega))) (c_So_cellIndex d L B1 B2 fi ai aj x y z hx hy hz hI) ?_
  rintro r1 h1 ⟨rfl, rfl⟩
  refine am_W.br rfl rfl (by and_intros <;> first | trivial | exact okI rfl rfl rfl | (refine okrI rfl rfl rfl rfl ?_ ?_ <;> (first | omega | (simp only [HS, FRS, CCS, am_R] at *; omega))) | (refine okaI rfl rfl rfl rfl ?_ ?_ <;> (first | omega | (simp only [HS, FRS, CCS, am_R] at *; omega))) | (first | omega | (simp only [HS, FRS, CCS, am_R] at *; omega))) (fun c1 => ?_) (fun c1 => ?_)
  · refine am_W.rt rfl rfl (by and_intros <;> first | trivial | exact okI rfl rfl rfl | (refine okrI rfl rfl rfl rfl ?_ ?_ <;> (first | omega | (simp only [HS, FRS, CCS, am_R] at *; omega))) | (refine okaI rfl rfl rfl rfl ?_ ?_ <;> (first | omega | (simp only [HS, FRS, CCS, am_R] at *; omega))) | (first | omega | (simp only [HS, FRS, CCS, am_R] at *; omega))) ⟨rfl, ?_⟩
    rw [if_pos c1]
  · rw [if_neg c1]
    refine am_W.br rfl rfl (by and_intros <;> first | trivial | exact okI rfl rfl rfl | (refine okrI rfl rfl rfl rfl ?_ ?_ <;> (first | omega | (simp only [HS, FRS, CCS, am_R] at *; omega))) | (refine okaI rfl rfl rfl rfl ?_ ?_ <;> (first | omega | (simp only [HS, FRS, CCS, am_R] at *; omega))) | (first | omega | (simp only [HS, FRS, CCS, am_R] at *; omega))) (fun c2 => ?_) (fun c2 => ?_)
    · refine am_W.rt rfl rfl (by and_intros <;> first | trivial | exact okI rfl rfl rfl | (refine okrI rfl rfl rfl rfl ?_ ?_ <;> (first | omega | (simp only [HS, FRS, CCS, am_R] at *; omega))) | (refine okaI rfl rfl rfl rfl ?_ ?_ <;> (first | omega | (simp only [HS, FRS, CCS, am_R] at *; omega))) | (first | omega | (simp only [HS, FRS, CCS, am_R] at *; omega))) ⟨rfl, ?_⟩
      rw [if_neg (by omega)]
      rfl
    · refine am_W.rt rfl rfl (by and_intros <;> first | trivial | exact okI rfl rfl rfl | (refine okrI rfl rfl rfl rfl ?_ ?_ <;> (first | omega | (simp only [HS, FRS, CCS, am_R] at *; omega))) | (refine okaI rfl rfl rfl rfl ?_ ?_ <;> (first | omega | (simp only [HS, FRS, CCS, am_R] at *; omega))) | (first | omega | (simp only [HS, FRS, CCS, am_R] at *; omega))) ⟨rfl, ?_⟩
      rw [if_pos (by omega)]
      rfl
