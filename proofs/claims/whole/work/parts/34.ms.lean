-- Mappings: the loop that makes the six
set_option maxHeartbeats 1000000 in
set_option maxRecDepth 100000 in
theorem Ms_step (d : Nat) (Q : Option am_V → am_H → Prop) (h : am_H) (a r n : Nat) (i : Int) (hn : am_n h = n) (hok : am_ok h a 7) (hr : am_fr h 37 a = r) (hl : 16 ≤ r ∧ r < am_n h ∧ am_c h r = (1004, 6)) (hi : 0 ≤ i) (hi6 : i < 6) (w : am_W (am_ev am_prog (d + 3)) T_Ms_init Q (20, [some (.inr (.inr a)), some (.inl (i + 1))], [], Ms_it h r i n)) : am_W (am_ev am_prog (d + 3)) T_Ms_init Q (20, [some (.inr (.inr a)), some (.inl i)], [], h) := by
  subst hn
  have h16 : 16 ≤ am_n h := Nat.le_of_lt (Nat.lt_of_le_of_lt hok.1 hok.2.1)
  refine am_W.br rfl rfl ⟨trivial, ⟨by omega, by omega⟩, by omega, by omega⟩ (fun c => absurd c (by omega)) (fun _ => ?_)
  refine am_W.ci rfl rfl rfl ⟨⟨⟨trivial, hok⟩, trivial⟩, h16⟩ (c_Ma_init d _ _ (am_ok_n (c := 8) (N := 11) h16)) ?_
  rintro r1 h1 ⟨rfl, rfl⟩
  have hq : 16 ≤ r ∧ r < am_n (Ma_mk (am_nwo h 8 11) (am_n h)) ∧ am_c (Ma_mk (am_nwo h 8 11) (am_n h)) r = (1004, 6) := Ma_mk_ok (am_ok_o hl)
  have hv : am_ok (Ma_mk (am_nwo h 8 11) (am_n h)) (am_n h) 8 := Ma_mk_ok (am_ok_n (c := 8) (N := 11) h16)
  show am_W (am_ev am_prog (d + 3)) T_Ms_init Q (38, [some (.inr (.inr a)), some (.inl i)], [.inr (.inr (am_n h)), .inl i, .inr (.inr (am_fr h 37 a))], Ma_mk (am_nwo h 8 11) (am_n h))
  rw [hr]
  refine am_W.ck rfl ⟨⟨hq.1, hq.2.1, by rw [hq.2.2], hi, by rw [hq.2.2]; exact hi6, by omega⟩, hv⟩ ?_
  refine am_W.st rfl ?_
  refine am_W.st rfl ?_
  exact w
theorem Ms_it_ok {h : am_H} {r n x : Nat} {i : Int} {p : Nat × Nat} (hok : 16 ≤ x ∧ x < am_n h ∧ am_c h x = p) : 16 ≤ x ∧ x < am_n (Ms_it h r i n) ∧ am_c (Ms_it h r i n) x = p := am_ok_q (Ma_mk_ok (am_ok_o hok))
theorem Ms_it_37 {h : am_H} {r n x k : Nat} {i : Int} (q : x < am_n h ∧ am_fr h 37 x = k) : x < am_n (Ms_it h r i n) ∧ am_fr (Ms_it h r i n) 37 x = k := am_ft_q (Ma_mk_37 (am_ft_o q))
theorem Ms_it_n {h : am_H} {r n : Nat} {i : Int} : am_n (Ms_it h r i n) = am_n h + 7 := rfl
set_option maxHeartbeats 1000000 in
set_option maxRecDepth 100000 in
theorem c_Ms_init (d : Nat) (h : am_H) (a : Nat) (hok : am_ok h a 7) (hn : am_n h = a + 1) : am_M am_prog (d + 4) m_Ms_init [.inr (.inr a)] h (fun v h' => v = none ∧ h' = Ms_mk h a) := by
  have h16 : 16 ≤ am_n h := Nat.le_of_lt (Nat.lt_of_le_of_lt hok.1 hok.2.1)
  refine am_W.of rfl rfl ?_
  refine am_W.ci rfl rfl rfl ⟨trivial, hok.1⟩ (am_obj hok.1) ?_
  rintro r1 h1 ⟨rfl, rfl⟩
  refine am_W.gn 9 rfl ⟨⟨⟨trivial, by decide, by decide⟩, am_ok_a hok⟩, am_ok_r (am_ok_a hok)⟩ ?_
  show am_W (am_ev am_prog (d + 3)) T_Ms_init _ (20, [some (.inr (.inr a)), some (.inl 0)], [], am_ufi (am_ufr (am_nwa h1 1004 6) 37 a (am_n h1)) 38 a 0)
  have l0 : 16 ≤ am_n h1 ∧ am_n h1 < am_n (am_ufi (am_ufr (am_nwa h1 1004 6) 37 a (am_n h1)) 38 a 0) ∧ am_c (am_ufi (am_ufr (am_nwa h1 1004 6) 37 a (am_n h1)) 38 a 0) (am_n h1) = (1004, 6) := ⟨h16, Nat.lt_succ_self _, if_pos rfl⟩
  have f0 : a < am_n (am_ufi (am_ufr (am_nwa h1 1004 6) 37 a (am_n h1)) 38 a 0) ∧ am_fr (am_ufi (am_ufr (am_nwa h1 1004 6) 37 a (am_n h1)) 38 a 0) 37 a = am_n h1 := ⟨Nat.lt_succ_of_lt hok.2.1, by simp only [am_S1, am_S3, am_u2s, if_true]⟩
  have o0 : am_ok (am_ufi (am_ufr (am_nwa h1 1004 6) 37 a (am_n h1)) 38 a 0) a 7 := am_ok_i (am_ok_r (am_ok_a hok))
  have n0 : am_n (am_ufi (am_ufr (am_nwa h1 1004 6) 37 a (am_n h1)) 38 a 0) = a + 2 := by
    show am_n h1 + 1 = a + 2
    omega
  unfold Ms_mk
  rw [hn] at l0 f0 o0 n0 ⊢
  generalize am_ufi (am_ufr (am_nwa h1 1004 6) 37 a (a + 1)) 38 a 0 = k0 at l0 f0 o0 n0 ⊢
  refine Ms_step d _ k0 a (a + 1) (a + 2) 0 n0 o0 f0.2 l0 (by omega) (by omega) ?_
  refine Ms_step d _ _ a (a + 1) (a + 9) 1 (by rw [Ms_it_n, n0]) (Ms_it_ok o0) (Ms_it_37 f0).2 (Ms_it_ok l0) (by omega) (by omega) ?_
  refine Ms_step d _ _ a (a + 1) (a + 16) 2 (by rw [Ms_it_n, Ms_it_n, n0]) (Ms_it_ok (Ms_it_ok o0)) (Ms_it_37 (Ms_it_37 f0)).2 (Ms_it_ok (Ms_it_ok l0)) (by omega) (by omega) ?_
  refine Ms_step d _ _ a (a + 1) (a + 23) 3 (by rw [Ms_it_n, Ms_it_n, Ms_it_n, n0]) (Ms_it_ok (Ms_it_ok (Ms_it_ok o0))) (Ms_it_37 (Ms_it_37 (Ms_it_37 f0))).2 (Ms_it_ok (Ms_it_ok (Ms_it_ok l0))) (by omega) (by omega) ?_
  refine Ms_step d _ _ a (a + 1) (a + 30) 4 (by rw [Ms_it_n, Ms_it_n, Ms_it_n, Ms_it_n, n0]) (Ms_it_ok (Ms_it_ok (Ms_it_ok (Ms_it_ok o0)))) (Ms_it_37 (Ms_it_37 (Ms_it_37 (Ms_it_37 f0)))).2 (Ms_it_ok (Ms_it_ok (Ms_it_ok (Ms_it_ok l0)))) (by omega) (by omega) ?_
  refine Ms_step d _ _ a (a + 1) (a + 37) 5 (by rw [Ms_it_n, Ms_it_n, Ms_it_n, Ms_it_n, Ms_it_n, n0]) (Ms_it_ok (Ms_it_ok (Ms_it_ok (Ms_it_ok (Ms_it_ok o0))))) (Ms_it_37 (Ms_it_37 (Ms_it_37 (Ms_it_37 (Ms_it_37 f0))))).2 (Ms_it_ok (Ms_it_ok (Ms_it_ok (Ms_it_ok (Ms_it_ok l0))))) (by omega) (by omega) ?_
  refine am_W.br rfl rfl ⟨trivial, ⟨by decide, by decide⟩, by decide, by decide⟩ (fun _ => ?_) (fun c => absurd (by decide) c)
  exact am_W.rt rfl rfl ⟨trivial, trivial⟩ ⟨rfl, rfl⟩
