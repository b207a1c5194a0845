-- source, row, at
def soA (n m : Int) : Int := if m < 1 ∨ 4 < m then -1 else if 4 ≤ n then -2 else n
def soN (n m : Int) : Int := if m < 1 ∨ 4 < m ∨ 4 ≤ n then n else n + 1
def soC (n m : Int) (c : Int → Int) : Int → Int := if m < 1 ∨ 4 < m ∨ 4 ≤ n then c else up c n m
set_option maxHeartbeats 400000 in
set_option maxRecDepth 100000 in
theorem c_MT_source (d L B1 B2 : Nat) (fi : Nat → Nat → Int) (ai aj : Nat → Int → Int) (m : Int) (hm : am_R m) (hI : DI (DD fi ai)) : am_M am_prog (d + 2) m_MT_source [.inr (.inr 16), .inl m] (HH L B1 B2 fi ai aj) (fun v h' => v = some (.inl (soA (fi 10 17) m)) ∧ h' = HH L B1 B2 (am_u2 fi 10 17 (soN (fi 10 17) m)) (am_sa ai 18 (soC (fi 10 17) m (ai 18))) aj) := by
  refine am_W.of rfl rfl ?_
  unfold soA soN soC
  refine am_W.br rfl rfl (by and_intros <;> first | trivial | exact okI rfl rfl rfl | (refine okrI rfl rfl rfl rfl ?_ ?_ <;> (first | omega | (simp only [HS, FRS, CCS, am_R] at *; omega))) | (refine okaI rfl rfl rfl rfl ?_ ?_ <;> (first | omega | (simp only [HS, FRS, CCS, am_R] at *; omega))) | (first | omega | (simp only [HS, FRS, CCS, am_R] at *; omega))) (fun c1 => ?_) (fun c1 => ?_)
  · rw [if_pos (by omega), if_pos (by omega), if_pos (by omega), u2_id, sa_id]
    exact am_W.rt rfl rfl (by and_intros <;> first | trivial | exact okI rfl rfl rfl | (refine okrI rfl rfl rfl rfl ?_ ?_ <;> (first | omega | (simp only [HS, FRS, CCS, am_R] at *; omega))) | (refine okaI rfl rfl rfl rfl ?_ ?_ <;> (first | omega | (simp only [HS, FRS, CCS, am_R] at *; omega))) | (first | omega | (simp only [HS, FRS, CCS, am_R] at *; omega))) ⟨rfl, rfl⟩
  · refine am_W.br rfl rfl (by and_intros <;> first | trivial | exact okI rfl rfl rfl | (refine okrI rfl rfl rfl rfl ?_ ?_ <;> (first | omega | (simp only [HS, FRS, CCS, am_R] at *; omega))) | (refine okaI rfl rfl rfl rfl ?_ ?_ <;> (first | omega | (simp only [HS, FRS, CCS, am_R] at *; omega))) | (first | omega | (simp only [HS, FRS, CCS, am_R] at *; omega))) (fun c2 => ?_) (fun c2 => ?_)
    · refine am_W.cv 1 m_So_addSource rfl rfl rfl rfl (by and_intros <;> first | trivial | exact okI rfl rfl rfl | (refine okrI rfl rfl rfl rfl ?_ ?_ <;> (first | omega | (simp only [HS, FRS, CCS, am_R] at *; omega))) | (refine okaI rfl rfl rfl rfl ?_ ?_ <;> (first | omega | (simp only [HS, FRS, CCS, am_R] at *; omega))) | (first | omega | (simp only [HS, FRS, CCS, am_R] at *; omega))) (c_So_addSource d L B1 B2 fi ai aj m hI) ?_
      rintro r1 h1 (⟨q, rfl, rfl⟩ | ⟨q, rfl, rfl⟩)
      · rw [if_neg (by omega), if_pos (by omega), if_pos (by omega), if_pos (by omega), u2_id, sa_id]
        exact am_W.rt rfl rfl (by and_intros <;> first | trivial | exact okI rfl rfl rfl | (refine okrI rfl rfl rfl rfl ?_ ?_ <;> (first | omega | (simp only [HS, FRS, CCS, am_R] at *; omega))) | (refine okaI rfl rfl rfl rfl ?_ ?_ <;> (first | omega | (simp only [HS, FRS, CCS, am_R] at *; omega))) | (first | omega | (simp only [HS, FRS, CCS, am_R] at *; omega))) ⟨rfl, rfl⟩
      · rw [if_neg (by omega), if_neg (by omega), if_neg (by omega), if_neg (by omega), ← u2_sa]
        exact am_W.rt rfl rfl (by and_intros <;> first | trivial | exact okI rfl rfl rfl | (refine okrI rfl rfl rfl rfl ?_ ?_ <;> (first | omega | (simp only [HS, FRS, CCS, am_R] at *; omega))) | (refine okaI rfl rfl rfl rfl ?_ ?_ <;> (first | omega | (simp only [HS, FRS, CCS, am_R] at *; omega))) | (first | omega | (simp only [HS, FRS, CCS, am_R] at *; omega))) ⟨rfl, rfl⟩
    · rw [if_pos (by omega), if_pos (by omega), if_pos (by omega), u2_id, sa_id]
      exact am_W.rt rfl rfl (by and_intros <;> first | trivial | exact okI rfl rfl rfl | (refine okrI rfl rfl rfl rfl ?_ ?_ <;> (first | omega | (simp only [HS, FRS, CCS, am_R] at *; omega))) | (refine okaI rfl rfl rfl rfl ?_ ?_ <;> (first | omega | (simp only [HS, FRS, CCS, am_R] at *; omega))) | (first | omega | (simp only [HS, FRS, CCS, am_R] at *; omega))) ⟨rfl, rfl⟩
set_option maxHeartbeats 400000 in
set_option maxRecDepth 100000 in
theorem c_Mo_source (d L B1 B2 : Nat) (fi : Nat → Nat → Int) (ai aj : Nat → Int → Int) (m : Int) (hm : am_R m) (hn : 0 ≤ fi 54 126 ∧ fi 54 126 ≤ 4) : am_M am_prog (d + 2) m_Mo_source [.inr (.inr 126), .inl m] (HH L B1 B2 fi ai aj) (fun v h' => v = some (.inl (soA (fi 54 126) m)) ∧ h' = HH L B1 B2 (am_u2 fi 54 126 (soN (fi 54 126) m)) (am_sa ai 127 (soC (fi 54 126) m (ai 127))) aj) := by
  refine am_W.of rfl rfl ?_
  refine am_W.cs rfl rfl rfl (by and_intros <;> first | trivial | exact okI rfl rfl rfl | (refine okrI rfl rfl rfl rfl ?_ ?_ <;> (first | omega | (simp only [HS, FRS, CCS, am_R] at *; omega))) | (refine okaI rfl rfl rfl rfl ?_ ?_ <;> (first | omega | (simp only [HS, FRS, CCS, am_R] at *; omega))) | (first | omega | (simp only [HS, FRS, CCS, am_R] at *; omega))) (c_Mo_in d m 1 4 _ hm (by and_intros <;> first | trivial | exact okI rfl rfl rfl | (refine okrI rfl rfl rfl rfl ?_ ?_ <;> (first | omega | (simp only [HS, FRS, CCS, am_R] at *; omega))) | (refine okaI rfl rfl rfl rfl ?_ ?_ <;> (first | omega | (simp only [HS, FRS, CCS, am_R] at *; omega))) | (first | omega | (simp only [HS, FRS, CCS, am_R] at *; omega))) (by and_intros <;> first | trivial | exact okI rfl rfl rfl | (refine okrI rfl rfl rfl rfl ?_ ?_ <;> (first | omega | (simp only [HS, FRS, CCS, am_R] at *; omega))) | (refine okaI rfl rfl rfl rfl ?_ ?_ <;> (first | omega | (simp only [HS, FRS, CCS, am_R] at *; omega))) | (first | omega | (simp only [HS, FRS, CCS, am_R] at *; omega)))) ?_
  rintro r1 h1 ⟨rfl, rfl⟩
  unfold soA soN soC
  by_cases q : 1 ≤ m ∧ m ≤ 4
  · rw [if_pos q, if_neg (by omega)]
    refine am_W.br rfl rfl (by and_intros <;> first | trivial | exact okI rfl rfl rfl | (refine okrI rfl rfl rfl rfl ?_ ?_ <;> (first | omega | (simp only [HS, FRS, CCS, am_R] at *; omega))) | (refine okaI rfl rfl rfl rfl ?_ ?_ <;> (first | omega | (simp only [HS, FRS, CCS, am_R] at *; omega))) | (first | omega | (simp only [HS, FRS, CCS, am_R] at *; omega))) (fun c1 => ?_) (fun c1 => absurd c1 (by decide))
    refine am_W.br rfl rfl (by and_intros <;> first | trivial | exact okI rfl rfl rfl | (refine okrI rfl rfl rfl rfl ?_ ?_ <;> (first | omega | (simp only [HS, FRS, CCS, am_R] at *; omega))) | (refine okaI rfl rfl rfl rfl ?_ ?_ <;> (first | omega | (simp only [HS, FRS, CCS, am_R] at *; omega))) | (first | omega | (simp only [HS, FRS, CCS, am_R] at *; omega))) (fun c1 => ?_) (fun c1 => ?_)
    · simp only [HS] at c1
      rw [if_neg (by omega), if_neg (by omega), if_neg (by omega), ← u2_sa]
      refine am_W.rt rfl rfl (by and_intros <;> first | trivial | exact okI rfl rfl rfl | (refine okrI rfl rfl rfl rfl ?_ ?_ <;> (first | omega | (simp only [HS, FRS, CCS, am_R] at *; omega))) | (refine okaI rfl rfl rfl rfl ?_ ?_ <;> (first | omega | (simp only [HS, FRS, CCS, am_R] at *; omega))) | (first | omega | (simp only [HS, FRS, CCS, am_R] at *; omega))) ⟨?_, rfl⟩
      simp only [HS, u2s]
      congr 2
      omega
    · simp only [HS] at c1
      rw [if_pos (by omega), if_pos (by omega), if_pos (by omega), u2_id, sa_id]
      exact am_W.rt rfl rfl (by and_intros <;> first | trivial | exact okI rfl rfl rfl | (refine okrI rfl rfl rfl rfl ?_ ?_ <;> (first | omega | (simp only [HS, FRS, CCS, am_R] at *; omega))) | (refine okaI rfl rfl rfl rfl ?_ ?_ <;> (first | omega | (simp only [HS, FRS, CCS, am_R] at *; omega))) | (first | omega | (simp only [HS, FRS, CCS, am_R] at *; omega))) ⟨rfl, rfl⟩
  · rw [if_neg q, if_pos (by omega), if_pos (by omega), if_pos (by omega), u2_id, sa_id]
    refine am_W.br rfl rfl (by and_intros <;> first | trivial | exact okI rfl rfl rfl | (refine okrI rfl rfl rfl rfl ?_ ?_ <;> (first | omega | (simp only [HS, FRS, CCS, am_R] at *; omega))) | (refine okaI rfl rfl rfl rfl ?_ ?_ <;> (first | omega | (simp only [HS, FRS, CCS, am_R] at *; omega))) | (first | omega | (simp only [HS, FRS, CCS, am_R] at *; omega))) (fun c1 => absurd rfl c1) (fun c1 => ?_)
    exact am_W.rt rfl rfl (by and_intros <;> first | trivial | exact okI rfl rfl rfl | (refine okrI rfl rfl rfl rfl ?_ ?_ <;> (first | omega | (simp only [HS, FRS, CCS, am_R] at *; omega))) | (refine okaI rfl rfl rfl rfl ?_ ?_ <;> (first | omega | (simp only [HS, FRS, CCS, am_R] at *; omega))) | (first | omega | (simp only [HS, FRS, CCS, am_R] at *; omega))) ⟨rfl, rfl⟩
def atA (n : Int) (t : Int → Int) (i : Int) : Int := if 0 ≤ i ∧ i < n then t i else -1
set_option maxHeartbeats 400000 in
set_option maxRecDepth 100000 in
theorem c_MT_at (d L B1 B2 : Nat) (fi : Nat → Nat → Int) (ai aj : Nat → Int → Int) (i : Int) (hi : am_R i) (hn : 0 ≤ fi 36 36 ∧ fi 36 36 ≤ 626) : am_M am_prog (d + 1) m_MT_at [.inr (.inr 16), .inl i] (HH L B1 B2 fi ai aj) (fun v h' => v = some (.inl (atA (fi 36 36) (ai 37) i)) ∧ h' = HH L B1 B2 fi ai aj) := by
  refine am_W.of rfl rfl ?_
  unfold atA
  refine am_W.br rfl rfl (by and_intros <;> first | trivial | exact okI rfl rfl rfl | (refine okrI rfl rfl rfl rfl ?_ ?_ <;> (first | omega | (simp only [HS, FRS, CCS, am_R] at *; omega))) | (refine okaI rfl rfl rfl rfl ?_ ?_ <;> (first | omega | (simp only [HS, FRS, CCS, am_R] at *; omega))) | (first | omega | (simp only [HS, FRS, CCS, am_R] at *; omega))) (fun c1 => ?_) (fun c1 => ?_)
  · rw [if_neg (by omega)]
    exact am_W.rt rfl rfl (by and_intros <;> first | trivial | exact okI rfl rfl rfl | (refine okrI rfl rfl rfl rfl ?_ ?_ <;> (first | omega | (simp only [HS, FRS, CCS, am_R] at *; omega))) | (refine okaI rfl rfl rfl rfl ?_ ?_ <;> (first | omega | (simp only [HS, FRS, CCS, am_R] at *; omega))) | (first | omega | (simp only [HS, FRS, CCS, am_R] at *; omega))) ⟨rfl, rfl⟩
  · refine am_W.br rfl rfl (by and_intros <;> first | trivial | exact okI rfl rfl rfl | (refine okrI rfl rfl rfl rfl ?_ ?_ <;> (first | omega | (simp only [HS, FRS, CCS, am_R] at *; omega))) | (refine okaI rfl rfl rfl rfl ?_ ?_ <;> (first | omega | (simp only [HS, FRS, CCS, am_R] at *; omega))) | (first | omega | (simp only [HS, FRS, CCS, am_R] at *; omega))) (fun c2 => ?_) (fun c2 => ?_)
    · simp only [HS, FRS] at c2
      rw [if_pos (by omega)]
      exact am_W.rt rfl rfl (by and_intros <;> first | trivial | exact okI rfl rfl rfl | (refine okrI rfl rfl rfl rfl ?_ ?_ <;> (first | omega | (simp only [HS, FRS, CCS, am_R] at *; omega))) | (refine okaI rfl rfl rfl rfl ?_ ?_ <;> (first | omega | (simp only [HS, FRS, CCS, am_R] at *; omega))) | (first | omega | (simp only [HS, FRS, CCS, am_R] at *; omega))) ⟨rfl, rfl⟩
    · simp only [HS, FRS] at c2
      rw [if_neg (by omega)]
      exact am_W.rt rfl rfl (by and_intros <;> first | trivial | exact okI rfl rfl rfl | (refine okrI rfl rfl rfl rfl ?_ ?_ <;> (first | omega | (simp only [HS, FRS, CCS, am_R] at *; omega))) | (refine okaI rfl rfl rfl rfl ?_ ?_ <;> (first | omega | (simp only [HS, FRS, CCS, am_R] at *; omega))) | (first | omega | (simp only [HS, FRS, CCS, am_R] at *; omega))) ⟨rfl, rfl⟩
set_option maxHeartbeats 400000 in
set_option maxRecDepth 100000 in
theorem c_Mo_at (d L B1 B2 : Nat) (fi : Nat → Nat → Int) (ai aj : Nat → Int → Int) (i : Int) (hi : am_R i) (hn : 0 ≤ fi 109 126 ∧ fi 109 126 ≤ 626) : am_M am_prog (d + 2) m_Mo_at [.inr (.inr 126), .inl i] (HH L B1 B2 fi ai aj) (fun v h' => v = some (.inl (atA (fi 109 126) (ai 169) i)) ∧ h' = HH L B1 B2 fi ai aj) := by
  refine am_W.of rfl rfl ?_
  refine am_W.cs rfl rfl rfl (by and_intros <;> first | trivial | exact okI rfl rfl rfl | (refine okrI rfl rfl rfl rfl ?_ ?_ <;> (first | omega | (simp only [HS, FRS, CCS, am_R] at *; omega))) | (refine okaI rfl rfl rfl rfl ?_ ?_ <;> (first | omega | (simp only [HS, FRS, CCS, am_R] at *; omega))) | (first | omega | (simp only [HS, FRS, CCS, am_R] at *; omega))) (c_Mo_in d i 0 (fi 109 126 - 1) _ hi (by and_intros <;> first | trivial | exact okI rfl rfl rfl | (refine okrI rfl rfl rfl rfl ?_ ?_ <;> (first | omega | (simp only [HS, FRS, CCS, am_R] at *; omega))) | (refine okaI rfl rfl rfl rfl ?_ ?_ <;> (first | omega | (simp only [HS, FRS, CCS, am_R] at *; omega))) | (first | omega | (simp only [HS, FRS, CCS, am_R] at *; omega))) (by and_intros <;> first | trivial | exact okI rfl rfl rfl | (refine okrI rfl rfl rfl rfl ?_ ?_ <;> (first | omega | (simp only [HS, FRS, CCS, am_R] at *; omega))) | (refine okaI rfl rfl rfl rfl ?_ ?_ <;> (first | omega | (simp only [HS, FRS, CCS, am_R] at *; omega))) | (first | omega | (simp only [HS, FRS, CCS, am_R] at *; omega)))) ?_
  rintro r1 h1 ⟨rfl, rfl⟩
  unfold atA
  by_cases q : 0 ≤ i ∧ i ≤ fi 109 126 - 1
  · rw [if_pos q, if_pos (by omega)]
    refine am_W.br rfl rfl (by and_intros <;> first | trivial | exact okI rfl rfl rfl | (refine okrI rfl rfl rfl rfl ?_ ?_ <;> (first | omega | (simp only [HS, FRS, CCS, am_R] at *; omega))) | (refine okaI rfl rfl rfl rfl ?_ ?_ <;> (first | omega | (simp only [HS, FRS, CCS, am_R] at *; omega))) | (first | omega | (simp only [HS, FRS, CCS, am_R] at *; omega))) (fun c1 => absurd c1 (by decide)) (fun c1 => ?_)
    exact am_W.rt rfl rfl (by and_intros <;> first | trivial | exact okI rfl rfl rfl | (refine okrI rfl rfl rfl rfl ?_ ?_ <;> (first | omega | (simp only [HS, FRS, CCS, am_R] at *; omega))) | (refine okaI rfl rfl rfl rfl ?_ ?_ <;> (first | omega | (simp only [HS, FRS, CCS, am_R] at *; omega))) | (first | omega | (simp only [HS, FRS, CCS, am_R] at *; omega))) ⟨rfl, rfl⟩
  · rw [if_neg q, if_neg (by omega)]
    refine am_W.br rfl rfl (by and_intros <;> first | trivial | exact okI rfl rfl rfl | (refine okrI rfl rfl rfl rfl ?_ ?_ <;> (first | omega | (simp only [HS, FRS, CCS, am_R] at *; omega))) | (refine okaI rfl rfl rfl rfl ?_ ?_ <;> (first | omega | (simp only [HS, FRS, CCS, am_R] at *; omega))) | (first | omega | (simp only [HS, FRS, CCS, am_R] at *; omega))) (fun c1 => ?_) (fun c1 => absurd rfl c1)
    exact am_W.rt rfl rfl (by and_intros <;> first | trivial | exact okI rfl rfl rfl | (refine okrI rfl rfl rfl rfl ?_ ?_ <;> (first | omega | (simp only [HS, FRS, CCS, am_R] at *; omega))) | (refine okaI rfl rfl rfl rfl ?_ ?_ <;> (first | omega | (simp only [HS, FRS, CCS, am_R] at *; omega))) | (first | omega | (simp only [HS, FRS, CCS, am_R] at *; omega))) ⟨rfl, rfl⟩
-- row
def nn (v : Int) : Int := if v < 0 then -1 else v
def rwV (a b c e z : Int) : Int := if z = 0 then a else if z = 1 then b else if z = 2 then c else e
def rwK (k a b c e : Int) : Prop := k ≠ 0 ∧ a ≤ 9999 ∧ (1 < k → b ≤ 9999) ∧ (2 < k → c ≤ 9999) ∧ (3 < k → e ≤ 9999)
def rwP (f g : Int → Int) (x y k a b c e : Int) : Prop := (∀ z, 0 ≤ z → z < k → g ((x * 16 + y) * 4 + z) = nn (rwV a b c e z)) ∧ (∀ j, j < (x * 16 + y) * 4 ∨ (x * 16 + y) * 4 + 4 ≤ j → g j = f j) ∧ (∀ j, 0 ≤ j → j < 256 → -1 ≤ g j ∧ g j ≤ 9999)
def sc (f : Int → Int) (x y k z v : Int) : Int → Int := if z < k then up f ((x * 16 + y) * 4 + z) (nn v) else f
theorem sc_e (f : Int → Int) (x y k z v j : Int) : sc f x y k z v j = if z < k ∧ j = (x * 16 + y) * 4 + z then nn v else f j := by
  unfold sc up
  by_cases q : z < k
  · rw [if_pos q]
    by_cases q2 : j = (x * 16 + y) * 4 + z
    · rw [if_pos q2, if_pos ⟨q, q2⟩]
    · rw [if_neg q2, if_neg (fun w => q2 w.2)]
  · rw [if_neg q, if_neg (fun w => q w.1)]
theorem DI_sc {n : Int} {c r t f : Int → Int} {x y k z v : Int} (hI : DI (n, c, r, t, f)) (hv : z < k → v ≤ 9999) : DI (n, c, r, t, sc f x y k z v) := by
  obtain ⟨i0, i1, i2, i3, i4, i5, i6⟩ := hI
  refine ⟨i0, i1, i2, i3, ?_, i5, i6⟩
  intro i a b
  have h4 : -1 ≤ f i ∧ f i ≤ 9999 := i4 i a b
  show -1 ≤ sc f x y k z v i ∧ sc f x y k z v i ≤ 9999
  rw [sc_e]
  unfold nn
  by_cases q : z < k ∧ i = (x * 16 + y) * 4 + z
  · rw [if_pos q]
    have := hv q.1
    split <;> omega
  · rw [if_neg q]
    exact h4
set_option maxHeartbeats 400000 in
set_option maxRecDepth 100000 in
theorem c_setc (d L B1 B2 : Nat) (fi : Nat → Nat → Int) (A aj : Nat → Int → Int) (f : Int → Int) (x y z v k : Int) (hx : am_R x) (hy : am_R y) (hz : 0 ≤ z ∧ z < 4) (hv : am_R v) (hI : DI (fi 10 17, A 18, A 19, A 20, f)) (h0 : 0 ≤ y) (hr : y < ro (fi 10 17, A 18, A 19, A 20, f) x) (hk : co (fi 10 17, A 18, A 19, A 20, f) x = k) : am_M am_prog (d + 2) m_So_setCell [.inr (.inr 17), .inl x, .inl y, .inl z, .inl v] (HH L B1 B2 fi (am_sa A 21 f) aj) (fun w h' => w = none ∧ h' = HH L B1 B2 fi (am_sa A 21 (sc f x y k z v)) aj) := by
  refine am_M.mono (c_So_setCell d L B1 B2 fi (am_sa A 21 f) aj x y z v hx hy ⟨by omega, by omega⟩ hv hI) ?_
  rintro w h' ⟨rfl, rfl⟩
  refine ⟨rfl, ?_⟩
  have e : cx (DD fi (am_sa A 21 f)) x y z = if z < k then (x * 16 + y) * 4 + z else -1 := by
    show (if 0 ≤ y ∧ y < ro (fi 10 17, A 18, A 19, A 20, f) x ∧ 0 ≤ z ∧ z < co (fi 10 17, A 18, A 19, A 20, f) x then (x * 16 + y) * 4 + z else -1) = _
    rw [hk]
    by_cases q : z < k
    · rw [if_pos q, if_pos ⟨h0, hr, hz.1, q⟩]
    · rw [if_neg q, if_neg (fun w => q w.2.2.2)]
  rw [e]
  have hr2 := ro_in x hI
  unfold sc
  by_cases q : z < k
  · rw [if_pos q, if_pos q, if_neg (by omega), u2sa]
    rfl
  · rw [if_neg q, if_neg q, if_pos rfl]
theorem sc_P {f : Int → Int} {x y k a b c e : Int} (hk : 0 ≤ k ∧ k ≤ 4) (hx : 0 ≤ x ∧ x < 4) (hy : 0 ≤ y ∧ y < 16) (h4 : ∀ j, 0 ≤ j → j < 256 → -1 ≤ sc (sc (sc (sc f x y k 0 a) x y k 1 b) x y k 2 c) x y k 3 e j ∧ sc (sc (sc (sc f x y k 0 a) x y k 1 b) x y k 2 c) x y k 3 e j ≤ 9999) : rwP f (sc (sc (sc (sc f x y k 0 a) x y k 1 b) x y k 2 c) x y k 3 e) x y k a b c e := by
  refine ⟨?_, ?_, h4⟩
  · intro z z0 z1
    have hz : z = 0 ∨ z = 1 ∨ z = 2 ∨ z = 3 := by omega
    rcases hz with rfl | rfl | rfl | rfl
    · rw [sc_e, if_neg (by omega), sc_e, if_neg (by omega), sc_e, if_neg (by omega), sc_e, if_pos (by omega)]
      rfl
    · rw [sc_e, if_neg (by omega), sc_e, if_neg (by omega), sc_e, if_pos (by omega)]
      rfl
    · rw [sc_e, if_neg (by omega), sc_e, if_pos (by omega)]
      rfl
    · rw [sc_e, if_pos (by omega)]
      rfl
  · intro j hj
    rw [sc_e, if_neg (by omega), sc_e, if_neg (by omega), sc_e, if_neg (by omega), sc_e, if_neg (by omega)]
def rwH (ai : Nat → Int → Int) (s0 s1 s2 : Nat) (g : Int → Int) (x y : Int) : Nat → Int → Int := am_sa (am_sa (am_sa ai s0 (up (ai s0) x (y + 1))) s1 (up (ai s1) (x * 16 + y) 1)) s2 g
def rwQ (L B1 B2 : Nat) (fi : Nat → Nat → Int) (ai aj : Nat → Int → Int) (x k a b c e : Int) : Option am_V → am_H → Prop := fun v h' => (¬ rwK k a b c e ∧ v = some (.inl (-1)) ∧ h' = HH L B1 B2 fi ai aj) ∨ (rwK k a b c e ∧ 16 ≤ ai 19 x ∧ v = some (.inl (-2)) ∧ h' = HH L B1 B2 fi ai aj) ∨ (rwK k a b c e ∧ ai 19 x < 16 ∧ v = some (.inl (ai 19 x)) ∧ ∃ g, rwP (ai 21) g x (ai 19 x) k a b c e ∧ h' = HH L B1 B2 (am_u2 fi 31 25 1) (rwH ai 19 20 21 g x (ai 19 x)) aj)
set_option maxHeartbeats 400000 in
set_option maxRecDepth 100000 in
theorem c_MT_row (d L B1 B2 : Nat) (fi : Nat → Nat → Int) (ai aj : Nat → Int → Int) (x a b c e : Int) (hx : am_R x) (ha : am_R a) (hb : am_R b) (hc : am_R c) (he : am_R e) (hI : DI (DD fi ai)) : am_M am_prog (d + 3) m_MT_row [.inr (.inr 16), .inl x, .inl a, .inl b, .inl c, .inl e] (HH L B1 B2 fi ai aj) (rwQ L B1 B2 fi ai aj x (co (DD fi ai) x) a b c e) := by
  have hco := co_in x hI
  have hro := ro_in x hI
  refine am_W.of rfl rfl ?_
  refine am_W.cv 1 m_So_columnsOf rfl rfl rfl rfl (by and_intros <;> first | trivial | exact okI rfl rfl rfl | (refine okrI rfl rfl rfl rfl ?_ ?_ <;> (first | omega | (simp only [HS, FRS, CCS, am_R] at *; omega))) | (refine okaI rfl rfl rfl rfl ?_ ?_ <;> (first | omega | (simp only [HS, FRS, CCS, am_R] at *; omega))) | (first | omega | (simp only [HS, FRS, CCS, am_R] at *; omega))) (c_So_columnsOf (d + 1) L B1 B2 fi ai aj x hx hI) ?_
  rintro r1 h1 ⟨rfl, rfl⟩
  have hno : ∀ (hk : ¬ rwK (co (DD fi ai) x) a b c e), am_W (am_ev am_prog (d + 2)) T_MT_row (rwQ L B1 B2 fi ai aj x (co (DD fi ai) x) a b c e) (63, [some (.inr (.inr 16)), some (.inl x), some (.inl a), some (.inl b), some (.inl c), some (.inl e), some (.inl (co (DD fi ai) x)), none], [], HH L B1 B2 fi ai aj) := fun hk => am_W.rt rfl rfl (by and_intros <;> first | trivial | exact okI rfl rfl rfl | (refine okrI rfl rfl rfl rfl ?_ ?_ <;> (first | omega | (simp only [HS, FRS, CCS, am_R] at *; omega))) | (refine okaI rfl rfl rfl rfl ?_ ?_ <;> (first | omega | (simp only [HS, FRS, CCS, am_R] at *; omega))) | (first | omega | (simp only [HS, FRS, CCS, am_R] at *; omega))) (Or.inl ⟨hk, rfl, rfl⟩)
  have hyes : ∀ (hk : rwK (co (DD fi ai) x) a b c e), am_W (am_ev am_prog (d + 2)) T_MT_row (rwQ L B1 B2 fi ai aj x (co (DD fi ai) x) a b c e) (65, [some (.inr (.inr 16)), some (.inl x), some (.inl a), some (.inl b), some (.inl c), some (.inl e), some (.inl (co (DD fi ai) x)), none], [], HH L B1 B2 fi ai aj) := by
    intro hk
    obtain ⟨k0, k1, k2, k3, k4⟩ := id hk
    have hx4 := hco.2.2 (by omega)
    obtain ⟨i0, i1, i2, i3, i4, i5, i6⟩ := id hI
    have hq2 := i2 x (by omega) (by omega)
    simp only [] at hq2
    refine am_W.cv 1 m_So_addRow rfl rfl rfl rfl (by and_intros <;> first | trivial | exact okI rfl rfl rfl | (refine okrI rfl rfl rfl rfl ?_ ?_ <;> (first | omega | (simp only [HS, FRS, CCS, am_R] at *; omega))) | (refine okaI rfl rfl rfl rfl ?_ ?_ <;> (first | omega | (simp only [HS, FRS, CCS, am_R] at *; omega))) | (first | omega | (simp only [HS, FRS, CCS, am_R] at *; omega))) (c_So_addRow (d + 1) L B1 B2 fi ai aj x hx hI) ?_
    rintro r1 h1 (⟨q, rfl, rfl⟩ | ⟨q0, q1, q2, rfl, rfl⟩)
    · have q' : 16 ≤ ai 19 x := by
        have := hx4.2.2.1
        simp only [] at this
        omega
      refine am_W.br rfl rfl (by and_intros <;> first | trivial | exact okI rfl rfl rfl | (refine okrI rfl rfl rfl rfl ?_ ?_ <;> (first | omega | (simp only [HS, FRS, CCS, am_R] at *; omega))) | (refine okaI rfl rfl rfl rfl ?_ ?_ <;> (first | omega | (simp only [HS, FRS, CCS, am_R] at *; omega))) | (first | omega | (simp only [HS, FRS, CCS, am_R] at *; omega))) (fun c1 => absurd c1 (by decide)) (fun c1 => ?_)
      exact am_W.rt rfl rfl (by and_intros <;> first | trivial | exact okI rfl rfl rfl | (refine okrI rfl rfl rfl rfl ?_ ?_ <;> (first | omega | (simp only [HS, FRS, CCS, am_R] at *; omega))) | (refine okaI rfl rfl rfl rfl ?_ ?_ <;> (first | omega | (simp only [HS, FRS, CCS, am_R] at *; omega))) | (first | omega | (simp only [HS, FRS, CCS, am_R] at *; omega))) (Or.inr (Or.inl ⟨hk, q', rfl, rfl⟩))
    · have hyb : 0 ≤ ai 19 x := hq2.1
      refine am_W.br rfl rfl (by and_intros <;> first | trivial | exact okI rfl rfl rfl | (refine okrI rfl rfl rfl rfl ?_ ?_ <;> (first | omega | (simp only [HS, FRS, CCS, am_R] at *; omega))) | (refine okaI rfl rfl rfl rfl ?_ ?_ <;> (first | omega | (simp only [HS, FRS, CCS, am_R] at *; omega))) | (first | omega | (simp only [HS, FRS, CCS, am_R] at *; omega))) (fun c1 => ?_) (fun c1 => absurd hyb (by omega))
      have eA : am_u2 (am_u2 ai 19 x (ai 19 x + 1)) 20 (x * 16 + ai 19 x) 1 = am_sa (am_sa (am_sa ai 19 (up (ai 19) x (ai 19 x + 1))) 20 (up (ai 20) (x * 16 + ai 19 x) 1)) 21 (ai 21) := by
        rw [u2_sa, u2_sa]
        have h1 : am_sa (am_sa ai 19 (up (ai 19) x (ai 19 x + 1))) 20 (up (ai 20) (x * 16 + ai 19 x) 1) 21 = ai 21 := rfl
        rw [← h1, sa_id]
        rfl
      rw [eA]
      generalize hA : am_sa (am_sa ai 19 (up (ai 19) x (ai 19 x + 1))) 20 (up (ai 20) (x * 16 + ai 19 x) 1) = A
      have a18 : A 18 = ai 18 := by rw [← hA]; rfl
      have a19 : A 19 = up (ai 19) x (ai 19 x + 1) := by rw [← hA]; rfl
      have a20 : A 20 = up (ai 20) (x * 16 + ai 19 x) 1 := by rw [← hA]; rfl
      have D0 : DI (fi 10 17, A 18, A 19, A 20, ai 21) := by
        rw [a18, a19, a20]
        refine ⟨i0, i1, ?_, ?_, i4, i5, ?_⟩
        · intro i p0 p1
          show 0 ≤ up (ai 19) x (ai 19 x + 1) i ∧ up (ai 19) x (ai 19 x + 1) i ≤ 16
          unfold up
          split
          · omega
          · exact i2 i p0 p1
        · intro i p0 p1
          show up (ai 20) (x * 16 + ai 19 x) 1 i = 0 ∨ up (ai 20) (x * 16 + ai 19 x) 1 i = 1
          unfold up
          split
          · exact Or.inr rfl
          · exact i3 i p0 p1
        · intro i p0 p1
          show up (ai 19) x (ai 19 x + 1) i = 0
          rw [up_n _ _ (by simp only [] at p0; omega)]
          exact i6 i p0 p1
      have hrr : ∀ f, ai 19 x < ro (fi 10 17, A 18, A 19, A 20, f) x := by
        intro f
        show ai 19 x < if x < 0 ∨ fi 10 17 ≤ x then 0 else A 19 x
        rw [if_neg (by omega), a19, up_s]
        omega
      have hkk : ∀ f, co (fi 10 17, A 18, A 19, A 20, f) x = co (DD fi ai) x := by
        intro f
        show (if x < 0 ∨ fi 10 17 ≤ x then 0 else A 18 x) = if x < 0 ∨ fi 10 17 ≤ x then 0 else ai 18 x
        rw [a18]
      have hyR : am_R (ai 19 x) := ⟨by omega, by omega⟩
      refine am_W.cv 1 m_So_setCell rfl rfl rfl rfl (by and_intros <;> first | trivial | exact okI rfl rfl rfl | (refine okrI rfl rfl rfl rfl ?_ ?_ <;> (first | omega | (simp only [HS, FRS, CCS, am_R] at *; omega))) | (refine okaI rfl rfl rfl rfl ?_ ?_ <;> (first | omega | (simp only [HS, FRS, CCS, am_R] at *; omega))) | (first | omega | (simp only [HS, FRS, CCS, am_R] at *; omega))) (c_setc d L B1 B2 fi A aj (ai 21) x (ai 19 x) 0 a _ hx hyR ⟨by omega, by omega⟩ ha D0 hyb (hrr _) (hkk _)) ?_
      rintro r1 h1 ⟨rfl, rfl⟩
      have D1 := DI_sc (x := x) (y := ai 19 x) (k := co (DD fi ai) x) (z := 0) (v := a) D0 (fun _ => k1)
      refine am_W.cv 1 m_So_setCell rfl rfl rfl rfl (by and_intros <;> first | trivial | exact okI rfl rfl rfl | (refine okrI rfl rfl rfl rfl ?_ ?_ <;> (first | omega | (simp only [HS, FRS, CCS, am_R] at *; omega))) | (refine okaI rfl rfl rfl rfl ?_ ?_ <;> (first | omega | (simp only [HS, FRS, CCS, am_R] at *; omega))) | (first | omega | (simp only [HS, FRS, CCS, am_R] at *; omega))) (c_setc d L B1 B2 fi A aj _ x (ai 19 x) 1 b _ hx hyR ⟨by omega, by omega⟩ hb D1 hyb (hrr _) (hkk _)) ?_
      rintro r1 h1 ⟨rfl, rfl⟩
      have D2 := DI_sc (x := x) (y := ai 19 x) (k := co (DD fi ai) x) (z := 1) (v := b) D1 k2
      refine am_W.cv 1 m_So_setCell rfl rfl rfl rfl (by and_intros <;> first | trivial | exact okI rfl rfl rfl | (refine okrI rfl rfl rfl rfl ?_ ?_ <;> (first | omega | (simp only [HS, FRS, CCS, am_R] at *; omega))) | (refine okaI rfl rfl rfl rfl ?_ ?_ <;> (first | omega | (simp only [HS, FRS, CCS, am_R] at *; omega))) | (first | omega | (simp only [HS, FRS, CCS, am_R] at *; omega))) (c_setc d L B1 B2 fi A aj _ x (ai 19 x) 2 c _ hx hyR ⟨by omega, by omega⟩ hc D2 hyb (hrr _) (hkk _)) ?_
      rintro r1 h1 ⟨rfl, rfl⟩
      have D3 := DI_sc (x := x) (y := ai 19 x) (k := co (DD fi ai) x) (z := 2) (v := c) D2 k3
      refine am_W.cv 1 m_So_setCell rfl rfl rfl rfl (by and_intros <;> first | trivial | exact okI rfl rfl rfl | (refine okrI rfl rfl rfl rfl ?_ ?_ <;> (first | omega | (simp only [HS, FRS, CCS, am_R] at *; omega))) | (refine okaI rfl rfl rfl rfl ?_ ?_ <;> (first | omega | (simp only [HS, FRS, CCS, am_R] at *; omega))) | (first | omega | (simp only [HS, FRS, CCS, am_R] at *; omega))) (c_setc d L B1 B2 fi A aj _ x (ai 19 x) 3 e _ hx hyR ⟨by omega, by omega⟩ he D3 hyb (hrr _) (hkk _)) ?_
      rintro r1 h1 ⟨rfl, rfl⟩
      have D4 := DI_sc (x := x) (y := ai 19 x) (k := co (DD fi ai) x) (z := 3) (v := e) D3 k4
      refine am_W.rt rfl rfl (by and_intros <;> first | trivial | exact okI rfl rfl rfl | (refine okrI rfl rfl rfl rfl ?_ ?_ <;> (first | omega | (simp only [HS, FRS, CCS, am_R] at *; omega))) | (refine okaI rfl rfl rfl rfl ?_ ?_ <;> (first | omega | (simp only [HS, FRS, CCS, am_R] at *; omega))) | (first | omega | (simp only [HS, FRS, CCS, am_R] at *; omega))) (Or.inr (Or.inr ⟨hk, q2, rfl, _, sc_P ⟨by omega, by omega⟩ ⟨by omega, by omega⟩ ⟨by omega, by omega⟩ D4.2.2.2.2.1, ?_⟩))
      rw [rwH, hA]
      rfl
  generalize hk : co (DD fi ai) x = k at *
  refine am_W.br rfl rfl (by and_intros <;> first | trivial | exact okI rfl rfl rfl | (refine okrI rfl rfl rfl rfl ?_ ?_ <;> (first | omega | (simp only [HS, FRS, CCS, am_R] at *; omega))) | (refine okaI rfl rfl rfl rfl ?_ ?_ <;> (first | omega | (simp only [HS, FRS, CCS, am_R] at *; omega))) | (first | omega | (simp only [HS, FRS, CCS, am_R] at *; omega))) (fun c1 => hno (fun w => w.1 c1)) (fun c1 => ?_)
  refine am_W.br rfl rfl (by and_intros <;> first | trivial | exact okI rfl rfl rfl | (refine okrI rfl rfl rfl rfl ?_ ?_ <;> (first | omega | (simp only [HS, FRS, CCS, am_R] at *; omega))) | (refine okaI rfl rfl rfl rfl ?_ ?_ <;> (first | omega | (simp only [HS, FRS, CCS, am_R] at *; omega))) | (first | omega | (simp only [HS, FRS, CCS, am_R] at *; omega))) (fun c2 => hno (fun w => absurd w.2.1 (by omega))) (fun c2 => ?_)
  have g2 : ∀ (hq : 1 < k → b ≤ 9999), am_W (am_ev am_prog (d + 2)) T_MT_row (rwQ L B1 B2 fi ai aj x k a b c e) (35, [some (.inr (.inr 16)), some (.inl x), some (.inl a), some (.inl b), some (.inl c), some (.inl e), some (.inl k), none], [], HH L B1 B2 fi ai aj) := by
    intro hq
    have g3 : ∀ (hq3 : 2 < k → c ≤ 9999), am_W (am_ev am_prog (d + 2)) T_MT_row (rwQ L B1 B2 fi ai aj x k a b c e) (49, [some (.inr (.inr 16)), some (.inl x), some (.inl a), some (.inl b), some (.inl c), some (.inl e), some (.inl k), none], [], HH L B1 B2 fi ai aj) := by
      intro hq3
      refine am_W.br rfl rfl (by and_intros <;> first | trivial | exact okI rfl rfl rfl | (refine okrI rfl rfl rfl rfl ?_ ?_ <;> (first | omega | (simp only [HS, FRS, CCS, am_R] at *; omega))) | (refine okaI rfl rfl rfl rfl ?_ ?_ <;> (first | omega | (simp only [HS, FRS, CCS, am_R] at *; omega))) | (first | omega | (simp only [HS, FRS, CCS, am_R] at *; omega))) (fun c3 => hyes ⟨c1, by omega, hq, hq3, by omega⟩) (fun c3 => ?_)
      exact am_W.br rfl rfl (by and_intros <;> first | trivial | exact okI rfl rfl rfl | (refine okrI rfl rfl rfl rfl ?_ ?_ <;> (first | omega | (simp only [HS, FRS, CCS, am_R] at *; omega))) | (refine okaI rfl rfl rfl rfl ?_ ?_ <;> (first | omega | (simp only [HS, FRS, CCS, am_R] at *; omega))) | (first | omega | (simp only [HS, FRS, CCS, am_R] at *; omega))) (fun c4 => hyes ⟨c1, by omega, hq, hq3, fun _ => c4⟩) (fun c4 => hno (fun w => absurd (w.2.2.2.2 (by omega)) c4))
    refine am_W.br rfl rfl (by and_intros <;> first | trivial | exact okI rfl rfl rfl | (refine okrI rfl rfl rfl rfl ?_ ?_ <;> (first | omega | (simp only [HS, FRS, CCS, am_R] at *; omega))) | (refine okaI rfl rfl rfl rfl ?_ ?_ <;> (first | omega | (simp only [HS, FRS, CCS, am_R] at *; omega))) | (first | omega | (simp only [HS, FRS, CCS, am_R] at *; omega))) (fun c3 => g3 (by omega)) (fun c3 => ?_)
    exact am_W.br rfl rfl (by and_intros <;> first | trivial | exact okI rfl rfl rfl | (refine okrI rfl rfl rfl rfl ?_ ?_ <;> (first | omega | (simp only [HS, FRS, CCS, am_R] at *; omega))) | (refine okaI rfl rfl rfl rfl ?_ ?_ <;> (first | omega | (simp only [HS, FRS, CCS, am_R] at *; omega))) | (first | omega | (simp only [HS, FRS, CCS, am_R] at *; omega))) (fun c4 => hno (fun w => absurd (w.2.2.2.1 (by omega)) (by omega))) (fun c4 => g3 (by omega))
  refine am_W.br rfl rfl (by and_intros <;> first | trivial | exact okI rfl rfl rfl | (refine okrI rfl rfl rfl rfl ?_ ?_ <;> (first | omega | (simp only [HS, FRS, CCS, am_R] at *; omega))) | (refine okaI rfl rfl rfl rfl ?_ ?_ <;> (first | omega | (simp only [HS, FRS, CCS, am_R] at *; omega))) | (first | omega | (simp only [HS, FRS, CCS, am_R] at *; omega))) (fun c3 => g2 (by omega)) (fun c3 => ?_)
  exact am_W.br rfl rfl (by and_intros <;> first | trivial | exact okI rfl rfl rfl | (refine okrI rfl rfl rfl rfl ?_ ?_ <;> (first | omega | (simp only [HS, FRS, CCS, am_R] at *; omega))) | (refine okaI rfl rfl rfl rfl ?_ ?_ <;> (first | omega | (simp only [HS, FRS, CCS, am_R] at *; omega))) | (first | omega | (simp only [HS, FRS, CCS, am_R] at *; omega))) (fun c4 => hno (fun w => absurd (w.2.2.1 (by omega)) (by omega))) (fun c4 => g2 (by omega))
