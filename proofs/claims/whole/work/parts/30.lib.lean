-- short rules for walks on the small machine
theorem am_W.cv {P : am_P} {d : Nat} {T : am_T} {Q Q1 : Option am_V → am_H → Prop} {f f' : am_F} {P1 : Prop} {al : List (Nat × Nat)} {as : List am_V} {nx r : Nat} {ls : am_L} {s : List am_V} {h : am_H} (ci md : Nat) (hs : am_a64 T (some (True, f)) = some (P1, f')) (hb : am_ca T f' = some (2, al, .inr (.inr r) :: as, nx, ls, s, h)) (hm : al.contains (ci, md) = true) (h8 : Nat.ble (am_w8 s) 8 = true) (hp : P1 ∧ am_ok h r ci) (cc : am_M P d md (.inr (.inr r) :: as) h Q1) (w : ∀ r1 h1, Q1 r1 h1 → am_W (am_ev P d) T Q (nx, ls, am_bk r1 s, h1)) : am_W (am_ev P d) T Q f := am_W.ca ci md hs hb (List.contains_iff_mem.mp hm) (Nat.le_of_ble_eq_true h8) ⟨hp.1, r, as, rfl, hp.2⟩ cc w
theorem am_W.cs {P : am_P} {d : Nat} {T : am_T} {Q Q1 : Option am_V → am_H → Prop} {f f' : am_F} {P1 : Prop} {as : List am_V} {nx z md : Nat} {ls : am_L} {s : List am_V} {h : am_H} (hs : am_a64 T (some (True, f)) = some (P1, f')) (hb : am_ca T f' = some (0, [(z, md)], as, nx, ls, s, h)) (h8 : Nat.ble (am_w8 s) 8 = true) (hp : P1) (cc : am_M P d md as h Q1) (w : ∀ r1 h1, Q1 r1 h1 → am_W (am_ev P d) T Q (nx, ls, am_bk r1 s, h1)) : am_W (am_ev P d) T Q f := am_W.ca z md hs hb (List.mem_singleton.mpr rfl) (Nat.le_of_ble_eq_true h8) ⟨hp, trivial⟩ cc w
theorem am_W.ci {P : am_P} {d : Nat} {T : am_T} {Q Q1 : Option am_V → am_H → Prop} {f f' : am_F} {P1 : Prop} {as : List am_V} {nx z md r : Nat} {ls : am_L} {s : List am_V} {h : am_H} (hs : am_a64 T (some (True, f)) = some (P1, f')) (hb : am_ca T f' = some (1, [(z, md)], .inr (.inr r) :: as, nx, ls, s, h)) (h8 : Nat.ble (am_w8 s) 8 = true) (hp : P1 ∧ 16 ≤ r) (cc : am_M P d md (.inr (.inr r) :: as) h Q1) (w : ∀ r1 h1, Q1 r1 h1 → am_W (am_ev P d) T Q (nx, ls, am_bk r1 s, h1)) : am_W (am_ev P d) T Q f := am_W.ca z md hs hb (List.mem_singleton.mpr rfl) (Nat.le_of_ble_eq_true h8) ⟨hp.1, r, as, rfl, hp.2⟩ cc w
theorem am_obj {d r : Nat} {h : am_H} (hr : 16 ≤ r) : am_M am_prog (d + 1) 1005 [.inr (.inr r)] h (fun v h' => v = none ∧ h' = h) := ⟨none, h, Or.inr ⟨hr, rfl, rfl⟩, rfl, rfl⟩
theorem am_min {d : Nat} {x y : Int} {h : am_H} (hx : am_R x) (hy : am_R y) : am_M am_prog (d + 1) 1003 [.inl x, .inl y] h (fun v h' => v = some (.inl (if y < x then y else x)) ∧ h' = h) := ⟨_, h, Or.inr ⟨hx, hy, rfl, rfl⟩, rfl, rfl⟩
theorem am_abs {d : Nat} {x : Int} {h : am_H} (hx : am_R x) : am_M am_prog (d + 1) 1004 [.inl x] h (fun v h' => v = some (.inl (if 0 ≤ x then x else 0 - x)) ∧ h' = h) := ⟨_, h, Or.inr ⟨hx, rfl, rfl⟩, rfl, rfl⟩
theorem am_cpm {d a b : Nat} {i j n : Int} {h : am_H} (hc : am_cp h a i b j n) : am_M am_prog (d + 1) 1000 [.inr (.inr a), .inl i, .inr (.inr b), .inl j, .inl n] h (fun v h' => v = none ∧ h' = am_cpi h a i b j n) := ⟨none, _, Or.inr ⟨hc, rfl, rfl⟩, rfl, rfl⟩
/-- just n steps -/
def am_aN (T : am_T) : Nat → Option (Prop × am_F) → Option (Prop × am_F)
  | 0, x => x
  | n + 1, x => am_aN T n (am_a1 T x)
theorem am_aN_W {C : am_C} {T : am_T} {Q : Option am_V → am_H → Prop} : ∀ (n : Nat) {x : Option (Prop × am_F)}, am_G C T Q (am_aN T n x) → am_G C T Q x
  | 0, _, h => h
  | n + 1, _, h => am_a1_W (am_aN_W n h)
theorem am_W.gn {C : am_C} {T : am_T} {Q : Option am_V → am_H → Prop} {f f' : am_F} {P : Prop} (n : Nat) (hs : am_aN T n (some (True, f)) = some (P, f')) (hp : P) (w : am_W C T Q f') : am_W C T Q f := by
  obtain ⟨P1, f1, e, -, w1⟩ := am_aN_W (C := C) (T := T) (Q := Q) n (x := some (True, f)) ⟨P, f', hs, hp, w⟩
  simp only [Option.some.injEq, Prod.mk.injEq] at e
  obtain ⟨-, rfl⟩ := e
  exact w1
