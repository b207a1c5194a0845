-- the sources: the object at 17, its arrays at 18 .. 21
def So_L (h : am_H) : Prop := am_n h = 170 ∧ am_c h 17 = (1, 0) ∧ am_fr h 6 17 = 18 ∧ am_fr h 7 17 = 19 ∧ am_fr h 8 17 = 20 ∧ am_fr h 9 17 = 21 ∧ am_c h 18 = (1000, 4) ∧ am_c h 19 = (1000, 4) ∧ am_c h 20 = (1002, 64) ∧ am_c h 21 = (1000, 256)
def So_I (h : am_H) : Prop := (0 ≤ am_fi h 10 17 ∧ am_fi h 10 17 ≤ 4) ∧ (∀ i, 0 ≤ i → i < 4 → 0 ≤ am_ai h 18 i ∧ am_ai h 18 i ≤ 4) ∧ (∀ i, 0 ≤ i → i < 4 → 0 ≤ am_ai h 19 i ∧ am_ai h 19 i ≤ 16) ∧ (∀ i, 0 ≤ i → i < 64 → am_ai h 20 i = 0 ∨ am_ai h 20 i = 1) ∧ (∀ i, 0 ≤ i → i < 256 → -1 ≤ am_ai h 21 i ∧ am_ai h 21 i ≤ 9999)
/-- how many columns, how many rows; 0 where there is no such source -/
def So_co (h : am_H) (x : Int) : Int := if x < 0 ∨ am_fi h 10 17 ≤ x then 0 else am_ai h 18 x
def So_ro (h : am_H) (x : Int) : Int := if x < 0 ∨ am_fi h 10 17 ≤ x then 0 else am_ai h 19 x
def So_ix (h : am_H) (x y z : Int) : Int := if 0 ≤ y ∧ y < So_ro h x ∧ 0 ≤ z ∧ z < So_co h x then (x * 16 + y) * 4 + z else -1
def So_ce (h : am_H) (x y z : Int) : Int := if 0 ≤ y ∧ y < So_ro h x ∧ 0 ≤ z ∧ z < So_co h x then am_ai h 21 ((x * 16 + y) * 4 + z) else -1
def So_th (h : am_H) (x y : Int) : Int := if 0 ≤ y ∧ y < So_ro h x then am_ai h 20 (x * 16 + y) else 0
set_option maxHeartbeats 1000000 in
set_option maxRecDepth 100000 in
theorem c_So_columnsOf (d : Nat) (h : am_H) (x : Int) (hx : am_R x) (hL : So_L h) (hI : So_I h) : am_M am_prog (d + 1) m_So_columnsOf [.inr (.inr 17), .inl x] h (fun v h' => v = some (.inl (So_co h x)) ∧ h' = h) := by
  obtain ⟨l0, l1, l2, l3, l4, l5, l6, l7, l8, l9⟩ := hL
  obtain ⟨i0, i1, i2, i3, i4⟩ := hI
  refine am_W.of rfl rfl ?_
  refine am_W.br rfl rfl ⟨trivial, hx⟩ (fun c1 => ?_) (fun c1 => ?_)
  · refine am_W.rt rfl rfl ⟨trivial, trivial⟩ ⟨?_, rfl⟩
    rw [So_co, if_pos (Or.inl c1)]
  · refine am_W.br rfl rfl (by grind) (fun c2 => ?_) (fun c2 => ?_)
    · refine am_W.rt rfl rfl (by grind) ⟨?_, rfl⟩
      rw [So_co, if_neg (by omega), l2]
    · refine am_W.rt rfl rfl (by grind) ⟨?_, rfl⟩
      rw [So_co, if_pos (by omega)]
