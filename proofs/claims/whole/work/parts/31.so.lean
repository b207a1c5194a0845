-- the sources: the object at 17, its arrays at 18 .. 21
def So_L (h : am_H) : Prop := am_n h = 170 ∧ am_c h 17 = (1, 0) ∧ am_fr h 6 17 = 18 ∧ am_fr h 7 17 = 19 ∧ am_fr h 8 17 = 20 ∧ am_fr h 9 17 = 21 ∧ am_c h 18 = (1000, 4) ∧ am_c h 19 = (1000, 4) ∧ am_c h 20 = (1002, 64) ∧ am_c h 21 = (1000, 256)
def So_I (h : am_H) : Prop := (0 ≤ am_fi h 10 17 ∧ am_fi h 10 17 ≤ 4) ∧ (∀ i, 0 ≤ i → i < 4 → 0 ≤ am_ai h 18 i ∧ am_ai h 18 i ≤ 4) ∧ (∀ i, 0 ≤ i → i < 4 → 0 ≤ am_ai h 19 i ∧ am_ai h 19 i ≤ 16) ∧ (∀ i, 0 ≤ i → i < 64 → am_ai h 20 i = 0 ∨ am_ai h 20 i = 1) ∧ (∀ i, 0 ≤ i → i < 256 → -1 ≤ am_ai h 21 i ∧ am_ai h 21 i ≤ 9999)
/-- how many columns, how many rows; 0 where there is no such source -/
def So_co (h : am_H) (x : Int) : Int := if x < 0 ∨ am_fi h 10 17 ≤ x then 0 else am_ai h 18 x
def So_ro (h : am_H) (x : Int) : Int := if x < 0 ∨ am_fi h 10 17 ≤ x then 0 else am_ai h 19 x
def So_ix (h : am_H) (x y z : Int) : Int := if 0 ≤ y ∧ y < So_ro h x ∧ 0 ≤ z ∧ z < So_co h x then (x * 16 + y) * 4 + z else -1
def So_ce (h : am_H) (x y z : Int) : Int := if 0 ≤ y ∧ y < So_ro h x ∧ 0 ≤ z ∧ z < So_co h x then am_ai h 21 ((x * 16 + y) * 4 + z) else -1
def So_th (h : am_H) (x y : Int) : Int := if 0 ≤ y ∧ y < So_ro h x then am_ai h 20 (x * 16 + y) else 0
set_option maxHeartbeats 400000 in
set_option maxRecDepth 100000 in
theorem c_So_columnsOf (d : Nat) (h : am_H) (x : Int) (hx : am_R x) (hL : So_L h) (hI : So_I h) : am_M am_prog (d + 1) m_So_columnsOf [.inr (.inr 17), .inl x] h (fun v h' => v = some (.inl (So_co h x)) ∧ h' = h) := by
  obtain ⟨l0, l1, l2, l3, l4, l5, l6, l7, l8, l9⟩ := hL
  obtain ⟨i0, i1, i2, i3, i4⟩ := hI
  refine am_W.of rfl rfl ?_
  refine am_W.br rfl rfl ⟨trivial, hx⟩ (fun c1 => ?_) (fun c1 => ?_)
  · refine am_W.rt rfl rfl ⟨trivial, trivial⟩ ⟨?_, rfl⟩
    rw [So_co, if_pos (Or.inl c1)]
  · refine am_W.br rfl rfl (by grind) (fun c2 => ?_) (fun c2 => ?_)
    · refine am_W.rt rfl rfl (by grind) ⟨?_, rfl⟩
      rw [So_co, if_neg (by omega), l2]
    · refine am_W.rt rfl rfl (by grind) ⟨?_, rfl⟩
      rw [So_co, if_pos (by omega)]
set_option maxHeartbeats 400000 in
set_option maxRecDepth 100000 in
theorem c_So_rowsOf (d : Nat) (h : am_H) (x : Int) (hx : am_R x) (hL : So_L h) (hI : So_I h) : am_M am_prog (d + 1) m_So_rowsOf [.inr (.inr 17), .inl x] h (fun v h' => v = some (.inl (So_ro h x)) ∧ h' = h) := by
  obtain ⟨l0, l1, l2, l3, l4, l5, l6, l7, l8, l9⟩ := hL
  obtain ⟨i0, i1, i2, i3, i4⟩ := hI
  refine am_W.of rfl rfl ?_
  refine am_W.br rfl rfl ⟨trivial, hx⟩ (fun c1 => ?_) (fun c1 => ?_)
  · refine am_W.rt rfl rfl ⟨trivial, trivial⟩ ⟨?_, rfl⟩
    rw [So_ro, if_pos (Or.inl c1)]
  · refine am_W.br rfl rfl (by grind) (fun c2 => ?_) (fun c2 => ?_)
    · refine am_W.rt rfl rfl (by grind) ⟨?_, rfl⟩
      rw [So_ro, if_neg (by omega), l3]
    · refine am_W.rt rfl rfl (by grind) ⟨?_, rfl⟩
      rw [So_ro, if_pos (by omega)]
theorem So_ro_in {h : am_H} {x : Int} (hI : So_I h) : 0 ≤ So_ro h x ∧ So_ro h x ≤ 16 ∧ (0 < So_ro h x → 0 ≤ x ∧ x < 4 ∧ x < am_fi h 10 17 ∧ So_ro h x = am_ai h 19 x) := by
  obtain ⟨i0, i1, i2, i3, i4⟩ := hI
  unfold So_ro
  by_cases q : x < 0 ∨ am_fi h 10 17 ≤ x
  · rw [if_pos q]
    omega
  · rw [if_neg q]
    have := i2 x (by omega) (by omega)
    refine ⟨this.1, this.2, fun _ => ⟨by omega, by omega, by omega, rfl⟩⟩
theorem So_co_in {h : am_H} {x : Int} (hI : So_I h) : 0 ≤ So_co h x ∧ So_co h x ≤ 4 ∧ (0 < So_co h x → 0 ≤ x ∧ x < 4 ∧ x < am_fi h 10 17 ∧ So_co h x = am_ai h 18 x) := by
  obtain ⟨i0, i1, i2, i3, i4⟩ := hI
  unfold So_co
  by_cases q : x < 0 ∨ am_fi h 10 17 ≤ x
  · rw [if_pos q]
    omega
  · rw [if_neg q]
    have := i1 x (by omega) (by omega)
    refine ⟨this.1, this.2, fun _ => ⟨by omega, by omega, by omega, rfl⟩⟩
set_option maxHeartbeats 400000 in
set_option maxRecDepth 100000 in
theorem c_So_hasRow (d : Nat) (h : am_H) (x y : Int) (hx : am_R x) (hy : am_R y) (hL : So_L h) (hI : So_I h) : am_M am_prog (d + 2) m_So_hasRow [.inr (.inr 17), .inl x, .inl y] h (fun v h' => v = some (.inl (if 0 ≤ y ∧ y < So_ro h x then 1 else 0)) ∧ h' = h) := by
  obtain ⟨l0, l1, l2, l3, l4, l5, l6, l7, l8, l9⟩ := id hL
  have hr := So_ro_in (x := x) hI
  refine am_W.of rfl rfl ?_
  refine am_W.br rfl rfl ⟨trivial, hy⟩ (fun c1 => ?_) (fun c1 => ?_)
  · refine am_W.rt rfl rfl ⟨trivial, Or.inl rfl⟩ ⟨?_, rfl⟩
    rw [if_neg (by omega)]
  · refine am_W.cv 1 m_So_rowsOf rfl rfl rfl rfl (by grind) (c_So_rowsOf d h x hx hL hI) ?_
    rintro r1 h1 ⟨rfl, rfl⟩
    refine am_W.br rfl rfl (by grind) (fun c2 => ?_) (fun c2 => ?_)
    · refine am_W.rt rfl rfl ⟨trivial, Or.inl rfl⟩ ⟨?_, rfl⟩
      rw [if_neg (by omega)]
    · refine am_W.rt rfl rfl ⟨trivial, Or.inr rfl⟩ ⟨?_, rfl⟩
      rw [if_pos (by omega)]
set_option maxHeartbeats 400000 in
set_option maxRecDepth 100000 in
theorem c_So_addSource (d : Nat) (h : am_H) (x : Int) (hL : So_L h) (hI : So_I h) : am_M am_prog (d + 1) m_So_addSource [.inr (.inr 17), .inl x] h (fun v h' => (4 ≤ am_fi h 10 17 ∧ v = some (.inl (-2)) ∧ h' = h) ∨ (am_fi h 10 17 < 4 ∧ v = some (.inl (am_fi h 10 17)) ∧ h' = am_ufi (am_uai h 18 (am_fi h 10 17) x) 10 17 (am_fi h 10 17 + 1))) := by
  obtain ⟨l0, l1, l2, l3, l4, l5, l6, l7, l8, l9⟩ := hL
  obtain ⟨i0, i1, i2, i3, i4⟩ := hI
  refine am_W.of rfl rfl ?_
  refine am_W.br rfl rfl (by grind) (fun c1 => ?_) (fun c1 => ?_)
  · refine am_W.rt rfl rfl ?_ (Or.inr ⟨c1, ?_, ?_⟩)
    · simp only [am_ok, am_oka, am_okr, am_S1, am_S4, l0, l1, l2, l6]
      and_intros <;> first | trivial | omega
    · simp only [am_S1, am_S4, am_u2s, if_true]
      congr 2
      omega
    · rw [l2]
      rfl
  · refine am_W.rt rfl rfl (by grind) (Or.inl ⟨by omega, rfl, rfl⟩)
set_option maxHeartbeats 400000 in
set_option maxRecDepth 100000 in
theorem c_So_addRow (d : Nat) (h : am_H) (x : Int) (hx : am_R x) (hL : So_L h) (hI : So_I h) : am_M am_prog (d + 1) m_So_addRow [.inr (.inr 17), .inl x] h (fun v h' => ((x < 0 ∨ am_fi h 10 17 ≤ x ∨ 16 ≤ am_ai h 19 x) ∧ v = some (.inl (-1)) ∧ h' = h) ∨ (0 ≤ x ∧ x < am_fi h 10 17 ∧ am_ai h 19 x < 16 ∧ v = some (.inl (am_ai h 19 x)) ∧ h' = am_uai (am_uai h 19 x (am_ai h 19 x + 1)) 20 (x * 16 + am_ai h 19 x) 1)) := by
  obtain ⟨l0, l1, l2, l3, l4, l5, l6, l7, l8, l9⟩ := hL
  obtain ⟨i0, i1, i2, i3, i4⟩ := hI
  refine am_W.of rfl rfl ?_
  refine am_W.br rfl rfl ⟨trivial, hx⟩ (fun c1 => ?_) (fun c1 => ?_)
  · exact am_W.rt rfl rfl ⟨trivial, trivial⟩ (Or.inl ⟨Or.inl c1, rfl, rfl⟩)
  · refine am_W.br rfl rfl (by grind) (fun c2 => ?_) (fun c2 => ?_)
    · exact am_W.rt rfl rfl ⟨trivial, trivial⟩ (Or.inl ⟨by omega, rfl, rfl⟩)
    · have hq := i2 x (by omega) (by omega)
      refine am_W.br rfl rfl (by grind) (fun c3 => ?_) (fun c3 => ?_)
      · rw [l3] at c3
        refine am_W.rt rfl rfl ?_ (Or.inr ⟨by omega, by omega, c3, ?_, ?_⟩)
        · simp only [am_ok, am_oka, am_okr, am_S4, l0, l1, l3, l4, l7, l8]
          and_intros <;> first | trivial | omega
        · rw [l3]
        · simp only [am_S4, l3, l4]
      · rw [l3] at c3
        exact am_W.rt rfl rfl ⟨trivial, trivial⟩ (Or.inl ⟨by omega, rfl, rfl⟩)
set_option maxHeartbeats 400000 in
set_option maxRecDepth 100000 in
theorem c_So_isThere (d : Nat) (h : am_H) (x y : Int) (hx : am_R x) (hy : am_R y) (hL : So_L h) (hI : So_I h) : am_M am_prog (d + 3) m_So_isThere [.inr (.inr 17), .inl x, .inl y] h (fun v h' => v = some (.inl (So_th h x y)) ∧ h' = h) := by
  obtain ⟨l0, l1, l2, l3, l4, l5, l6, l7, l8, l9⟩ := id hL
  have hr := So_ro_in (x := x) hI
  obtain ⟨i0, i1, i2, i3, i4⟩ := id hI
  refine am_W.of rfl rfl ?_
  refine am_W.cv 1 m_So_hasRow rfl rfl rfl rfl (by grind) (c_So_hasRow d h x y hx hy hL hI) ?_
  rintro r1 h1 ⟨rfl, rfl⟩
  unfold So_th
  by_cases hq : 0 ≤ y ∧ y < So_ro h1 x
  · rw [if_pos hq, if_pos hq]
    have ht := i3 (x * 16 + y) (by omega) (by omega)
    refine am_W.br rfl rfl (by grind) (fun c1 => absurd c1 (by decide)) (fun c1 => ?_)
    refine am_W.br rfl rfl ?_ (fun c2 => ?_) (fun c2 => ?_)
    · simp only [am_ok, am_oka, am_okr, l0, l1, l4, l8]
      and_intros <;> first | trivial | omega
    · rw [l4] at c2
      refine am_W.rt rfl rfl ⟨trivial, Or.inl rfl⟩ ⟨?_, rfl⟩
      rw [c2]
    · rw [l4] at c2
      refine am_W.rt rfl rfl ⟨trivial, Or.inr rfl⟩ ⟨?_, rfl⟩
      rw [ht.resolve_left c2]
  · rw [if_neg hq, if_neg hq]
    refine am_W.br rfl rfl (by grind) (fun c1 => ?_) (fun c1 => absurd rfl c1)
    exact am_W.rt rfl rfl ⟨trivial, Or.inl rfl⟩ ⟨rfl, rfl⟩
