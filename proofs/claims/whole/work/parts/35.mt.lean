-- the class's constructor from the law's start
theorem Ms_mk_ok {h : am_H} {a x : Nat} {p : Nat × Nat} (hok : 16 ≤ x ∧ x < am_n h ∧ am_c h x = p) : 16 ≤ x ∧ x < am_n (Ms_mk h a) ∧ am_c (Ms_mk h a) x = p := Ms_it_ok (Ms_it_ok (Ms_it_ok (Ms_it_ok (Ms_it_ok (Ms_it_ok (am_ok_i (am_ok_r (am_ok_a hok))))))))
theorem Ms_mk_n {h : am_H} {a : Nat} : am_n (Ms_mk h a) = am_n h + 43 := by
  unfold Ms_mk
  rw [Ms_it_n, Ms_it_n, Ms_it_n, Ms_it_n, Ms_it_n, Ms_it_n]
  rfl
theorem HC0_n (L : Nat) (xs : Nat → Int32) : am_n (HC0 L xs) = 17 := rfl
theorem HC1_n (L : Nat) (xs : Nat → Int32) : am_n (HC1 L xs) = 22 := congrArg (· + 5) (HC0_n L xs)
theorem HC2_n (L : Nat) (xs : Nat → Int32) : am_n (HC2 L xs) = 25 := congrArg (· + 3) (HC1_n L xs)
theorem HC3_n (L : Nat) (xs : Nat → Int32) : am_n (HC3 L xs) = 36 := congrArg (· + 11) (HC2_n L xs)
theorem HC4_n (L : Nat) (xs : Nat → Int32) : am_n (HC4 L xs) = 38 := congrArg (· + 2) (HC3_n L xs)
theorem HC5_n (L : Nat) (xs : Nat → Int32) : am_n (HC5 L xs) = 39 := congrArg (· + 1) (HC4_n L xs)
theorem HC6_n (L : Nat) (xs : Nat → Int32) : am_n (HC6 L xs) = 82 := by
  unfold HC6
  rw [am_S3.1, Ms_mk_n, HC5_n]
theorem HC7_n (L : Nat) (xs : Nat → Int32) : am_n (HC7 L xs) = 83 := congrArg (· + 1) (HC6_n L xs)
theorem HC8_n (L : Nat) (xs : Nat → Int32) : am_n (HC8 L xs) = 126 := by
  unfold HC8
  rw [am_S3.1, Ms_mk_n, HC7_n]
set_option maxHeartbeats 1000000 in
set_option maxRecDepth 100000 in
theorem c_MT_init (d L : Nat) (xs : Nat → Int32) : am_M am_prog (d + 5) m_MT_init [.inr (.inr 16)] (HC0 L xs) (fun v h' => v = none ∧ h' = HC8 L xs) := by
  have o0 : am_ok (HC0 L xs) 16 0 := ⟨by decide, by rw [HC0_n]; decide, rfl⟩
  refine am_W.of rfl rfl ?_
  refine am_W.ci rfl rfl rfl ⟨trivial, by decide⟩ (am_obj (by decide)) ?_
  rintro r1 h1 ⟨rfl, rfl⟩
  have g0 : 16 ≤ am_n (HC0 L xs) := by rw [HC0_n]; decide
  refine am_W.ci rfl rfl rfl ⟨⟨trivial, trivial⟩, g0⟩ (c_So_init (d + 2) _ _ (am_ok_n (c := 1) (N := 5) g0)) ?_
  rintro r1 h1 ⟨rfl, rfl⟩
  rw [HC0_n]
  refine am_W.gn 1 rfl ⟨trivial, So_mk_ok (am_ok_o o0)⟩ ?_
  show am_W (am_ev am_prog (d + 4)) T_MT_init _ (15, [some (.inr (.inr 16))], [], HC1 L xs)
  have o1 : am_ok (HC1 L xs) 16 0 := am_ok_r (So_mk_ok (am_ok_o o0))
  have g1 : 16 ≤ am_n (HC1 L xs) := by rw [HC1_n]; decide
  refine am_W.ci rfl rfl rfl ⟨⟨trivial, trivial⟩, g1⟩ (c_Re_init (d + 1) _ _ (am_ok_n (c := 2) (N := 2) g1)) ?_
  rintro r1 h1 ⟨rfl, rfl⟩
  rw [HC1_n]
  refine am_W.gn 1 rfl ⟨trivial, Re_mk_ok (am_ok_o o1)⟩ ?_
  show am_W (am_ev am_prog (d + 4)) T_MT_init _ (26, [some (.inr (.inr 16))], [], HC2 L xs)
  have o2 : am_ok (HC2 L xs) 16 0 := am_ok_r (Re_mk_ok (am_ok_o o1))
  have g2 : 16 ≤ am_n (HC2 L xs) := by rw [HC2_n]; decide
  refine am_W.ci rfl rfl rfl ⟨⟨trivial, trivial⟩, g2⟩ (c_Gi_init d _ _ (am_ok_n (c := 4) (N := 13) g2)) ?_
  rintro r1 h1 ⟨rfl, rfl⟩
  rw [HC2_n]
  refine am_W.gn 1 rfl ⟨trivial, Gi_mk_ok (am_ok_o o2)⟩ ?_
  show am_W (am_ev am_prog (d + 4)) T_MT_init _ (37, [some (.inr (.inr 16))], [], HC3 L xs)
  have o3 : am_ok (HC3 L xs) 16 0 := am_ok_r (Gi_mk_ok (am_ok_o o2))
  have g3 : 16 ≤ am_n (HC3 L xs) := by rw [HC3_n]; decide
  refine am_W.ci rfl rfl rfl ⟨⟨trivial, trivial⟩, g3⟩ (c_Pr_init (d + 1) _ _ (am_ok_n (c := 6) (N := 2) g3)) ?_
  rintro r1 h1 ⟨rfl, rfl⟩
  rw [HC3_n]
  refine am_W.gn 1 rfl ⟨trivial, Pr_mk_ok (am_ok_o o3)⟩ ?_
  show am_W (am_ev am_prog (d + 4)) T_MT_init _ (48, [some (.inr (.inr 16))], [], HC4 L xs)
  have o4 : am_ok (HC4 L xs) 16 0 := am_ok_r (Pr_mk_ok (am_ok_o o3))
  have g4 : 16 ≤ am_n (HC4 L xs) := by rw [HC4_n]; decide
  refine am_W.ci rfl rfl rfl ⟨⟨trivial, trivial⟩, g4⟩ (c_Ms_init d _ _ (am_ok_n (c := 7) (N := 2) g4) (by rw [HC4_n]; exact HC5_n L xs)) ?_
  rintro r1 h1 ⟨rfl, rfl⟩
  rw [HC4_n]
  refine am_W.gn 1 rfl ⟨trivial, Ms_mk_ok (am_ok_o o4)⟩ ?_
  show am_W (am_ev am_prog (d + 4)) T_MT_init _ (59, [some (.inr (.inr 16))], [], HC6 L xs)
  have o6 : am_ok (HC6 L xs) 16 0 := am_ok_r (Ms_mk_ok (am_ok_o o4))
  have g6 : 16 ≤ am_n (HC6 L xs) := by rw [HC6_n]; decide
  refine am_W.ci rfl rfl rfl ⟨⟨trivial, trivial⟩, g6⟩ (c_Ms_init d _ _ (am_ok_n (c := 7) (N := 2) g6) (by rw [HC6_n]; exact HC7_n L xs)) ?_
  rintro r1 h1 ⟨rfl, rfl⟩
  rw [HC6_n]
  refine am_W.gn 1 rfl ⟨trivial, Ms_mk_ok (am_ok_o o6)⟩ ?_
  show am_W (am_ev am_prog (d + 4)) T_MT_init _ (70, [some (.inr (.inr 16))], [], HC8 L xs)
  have o8 : am_ok (HC8 L xs) 16 0 := am_ok_r (Ms_mk_ok (am_ok_o o6))
  exact am_W.rt rfl rfl ⟨trivial, trivial⟩ ⟨rfl, rfl⟩
