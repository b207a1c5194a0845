-- the beginning, and the whole run
set_option maxRecDepth 100000 in
theorem HM1_17 (L : Nat) (xs : Nat → Int32) : am_R (am_fi (HM1 L xs) 17 23) := by
  have e : am_fi (HM1 L xs) 17 23 = -1 := rfl
  rw [e]
  exact ⟨by omega, by omega⟩
theorem I0 (L : Nat) (xs : Nat → Int32) : INV L (st_ai xs 1) (HM1 L xs) := by
  have hz := HM1_z L xs
  have h17 := HM1_17 L xs
  rw [HM1_e] at ⊢
  generalize am_fi (HM1 L xs) = f at hz h17
  have e10 := hz 10 17 rfl
  have e54 := hz 54 126 rfl
  have e14 := hz 14 23 rfl
  have e15 := hz 15 23 rfl
  have e16 := hz 16 23 rfl
  have e18 := hz 18 23 rfl
  have e60 := hz 60 126 rfl
  have e61 := hz 61 126 rfl
  have e94 := hz 94 126 rfl
  have e109 := hz 109 126 rfl
  have e36 := hz 36 36 rfl
  have e38 := hz 38 38 rfl
  have e30 := hz 30 25 rfl
  have e27 := hz 27 25 rfl
  have e31 := hz 31 25 rfl
  have hD : DI (0, (fun _ => (0 : Int)), (fun _ => (0 : Int)), (fun _ => (0 : Int)), (fun _ => (0 : Int))) := ⟨⟨by decide, by decide⟩, fun _ _ _ => ⟨(by decide : (0 : Int) ≤ 0), (by decide : (0 : Int) ≤ 4)⟩, fun _ _ _ => ⟨(by decide : (0 : Int) ≤ 0), (by decide : (0 : Int) ≤ 16)⟩, fun _ _ _ => Or.inl rfl, fun _ _ _ => ⟨(by decide : (-1 : Int) ≤ 0), (by decide : (0 : Int) ≤ 9999)⟩, fun i h0 h1 => absurd h1 (by show ¬ i < 0; omega), fun _ _ _ => rfl⟩
  have eD : DD f (st_ai xs) = (0, (fun _ => (0 : Int)), (fun _ => (0 : Int)), (fun _ => (0 : Int)), (fun _ => (0 : Int))) := by
    show (f 10 17, (fun _ => (0 : Int)), (fun _ => (0 : Int)), (fun _ => (0 : Int)), (fun _ => (0 : Int))) = _
    rw [e10]
  have eM : DM f (st_ai xs) = (0, (fun _ => (0 : Int)), (fun _ => (0 : Int)), (fun _ => (0 : Int)), (fun _ => (0 : Int))) := by
    show (f 54 126, (fun _ => (0 : Int)), (fun _ => (0 : Int)), (fun _ => (0 : Int)), (fun _ => (0 : Int))) = _
    rw [e54]
  refine ⟨38, 82, f, st_ai xs, _, [], [], rfl, Or.inl ⟨rfl, rfl⟩, ⟨by rw [eD]; exact hD, by rw [eM]; exact hD, by rw [e54, e10], rfl, rfl, rfl, by rw [eD, eM]; exact fun _ _ _ => rfl⟩, ⟨by rw [e60, e14], rfl, ⟨⟨by rw [e14]; exact Int.le_refl 0, by rw [e14]; decide, fun i h0 h1 => absurd h1 (by rw [e14]; omega)⟩, by rw [e15, e14]; exact ⟨by decide, by decide⟩, by rw [e18]; exact ⟨by decide, by decide⟩, h17, by rw [e16]; exact ⟨by decide, by decide⟩⟩, e15⟩, ⟨Nat.zero_le 6, ⟨e38, fun i x hx => (by cases hx)⟩, fun i x hx => (by cases hx), e61, fun x hx => (by cases hx), Nat.zero_le _⟩, ⟨by rw [e109, e36], by rw [e36]; exact ⟨by decide, by decide⟩, fun i h0 h1 => absurd h1 (by rw [e36]; omega)⟩, ⟨fun k => ⟨by show -128 ≤ (0 : Int); decide, by show (0 : Int) < 128; decide⟩, e94, Lst_nil, fun i hi => absurd hi (Nat.not_lt_zero i), fun i j hi => absurd hi (Nat.not_lt_zero i)⟩, Or.inl ⟨e31, e30, fun i p hp => (by cases hp), fun w hw => (by cases hw), fun w hw => (by cases hw), [], Lst_nil, e27, fun i hi => absurd hi (Nat.not_lt_zero i), fun hh => absurd rfl hh⟩, rfl⟩
set_option maxHeartbeats 400000 in
set_option maxRecDepth 100000 in
theorem law_run (L : Nat) (xs : Nat → Int32) (hL : L ≤ 3072) : am_W (am_ev am_prog 11) T_Law_law (fun r h' => r = some (.inl 1) ∧ am_n h' ≤ 600016 ∧ am_sl h' ≤ 7302250) (0, am_pd 4 (am_en [.inr (.inr 1)]), [], am_h0 L xs) := by
  refine am_W.ci rfl rfl rfl ⟨⟨trivial, trivial⟩, Nat.le_refl 16⟩ (c_MT_init 6 L xs) ?_
  rintro v1 h1 ⟨rfl, rfl⟩
  have g : 16 ≤ am_n (HC8 L xs) := by rw [HC8_n]; decide
  refine am_W.ci rfl rfl rfl ⟨⟨trivial, trivial⟩, g⟩ (c_Mo_init 9 _ _ (am_ok_n (c := 10) (N := 57) g)) ?_
  rintro v2 h2 ⟨rfl, rfl⟩
  rw [HC8_n]
  refine am_W.gp 18 rfl trivial ?_
  exact l_law hL (A1_R xs) L 0 (HM1 L xs) (by omega) (by omega) (by omega) (I0 L xs)
