-- printed by wip/gen/ctor.py: the constructors
theorem am_S7 : (∀ h c N, am_n (am_nwo h c N) = am_n h + 1) ∧ (∀ h c N, am_sl (am_nwo h c N) = am_sl h + N) ∧ (∀ h c N b, am_c (am_nwo h c N) b = if b = am_n h then (c, 0) else am_c h b) := ⟨fun _ _ _ => rfl, fun _ _ _ => rfl, fun _ _ _ _ => rfl⟩
theorem am_S8 : (∀ h c N, am_n (am_nwa h c N) = am_n h + 1) ∧ (∀ h c N, am_sl (am_nwa h c N) = am_sl h + N) ∧ (∀ h c N b, am_c (am_nwa h c N) b = if b = am_n h then (c, N) else am_c h b) := ⟨fun _ _ _ => rfl, fun _ _ _ => rfl, fun _ _ _ _ => rfl⟩
theorem am_ok_o {h : am_H} {a c N : Nat} {p : Nat × Nat} (q : 16 ≤ a ∧ a < am_n h ∧ am_c h a = p) : 16 ≤ a ∧ a < am_n (am_nwo h c N) ∧ am_c (am_nwo h c N) a = p := ⟨q.1, Nat.lt_succ_of_lt q.2.1, (if_neg (Nat.ne_of_lt q.2.1)).trans q.2.2⟩
theorem am_ok_a {h : am_H} {a c N : Nat} {p : Nat × Nat} (q : 16 ≤ a ∧ a < am_n h ∧ am_c h a = p) : 16 ≤ a ∧ a < am_n (am_nwa h c N) ∧ am_c (am_nwa h c N) a = p := ⟨q.1, Nat.lt_succ_of_lt q.2.1, (if_neg (Nat.ne_of_lt q.2.1)).trans q.2.2⟩
theorem am_ok_n {h : am_H} {c N : Nat} (q : 16 ≤ am_n h) : am_ok (am_nwo h c N) (am_n h) c := ⟨q, Nat.lt_succ_self _, if_pos rfl⟩
set_option maxRecDepth 100000 in
theorem c_Si_init (d : Nat) (h : am_H) (a : Nat) (ha : 16 ≤ a) : am_M am_prog (d + 2) m_Si_init [.inr (.inr a)] h (fun v h' => v = none ∧ h' = h) := by
  refine am_W.of rfl rfl ?_
  refine am_W.ci rfl rfl rfl ⟨trivial, ha⟩ (am_obj ha) ?_
  rintro r1 h1 ⟨rfl, rfl⟩
  exact am_W.rt rfl rfl ⟨trivial, trivial⟩ ⟨rfl, rfl⟩
theorem am_ok_r {h : am_H} {a f x v : Nat} {p : Nat × Nat} (q : 16 ≤ a ∧ a < am_n h ∧ am_c h a = p) : 16 ≤ a ∧ a < am_n (am_ufr h f x v) ∧ am_c (am_ufr h f x v) a = p := q
theorem am_ok_i {h : am_H} {a f x : Nat} {v : Int} {p : Nat × Nat} (q : 16 ≤ a ∧ a < am_n h ∧ am_c h a = p) : 16 ≤ a ∧ a < am_n (am_ufi h f x v) ∧ am_c (am_ufi h f x v) a = p := q
theorem am_ok_q {h : am_H} {a x v : Nat} {i : Int} {p : Nat × Nat} (q : 16 ≤ a ∧ a < am_n h ∧ am_c h a = p) : 16 ≤ a ∧ a < am_n (am_uar h x i v) ∧ am_c (am_uar h x i v) a = p := q
theorem am_16o {h : am_H} {c N : Nat} (q : 16 ≤ am_n h) : 16 ≤ am_n (am_nwo h c N) := Nat.le_succ_of_le q
theorem am_16a {h : am_H} {c N : Nat} (q : 16 ≤ am_n h) : 16 ≤ am_n (am_nwa h c N) := Nat.le_succ_of_le q
theorem am_16r {h : am_H} {f x v : Nat} (q : 16 ≤ am_n h) : 16 ≤ am_n (am_ufr h f x v) := q
theorem am_16i {h : am_H} {f x : Nat} {v : Int} (q : 16 ≤ am_n h) : 16 ≤ am_n (am_ufi h f x v) := q
theorem am_16q {h : am_H} {x v : Nat} {i : Int} (q : 16 ≤ am_n h) : 16 ≤ am_n (am_uar h x i v) := q
theorem am_ft_o {h : am_H} {k j a c N : Nat} (q : a < am_n h ∧ am_fr h j a = k) : a < am_n (am_nwo h c N) ∧ am_fr (am_nwo h c N) j a = k := ⟨Nat.lt_succ_of_lt q.1, (if_neg (Nat.ne_of_lt q.1)).trans q.2⟩
theorem am_ft_a {h : am_H} {k j a c N : Nat} (q : a < am_n h ∧ am_fr h j a = k) : a < am_n (am_nwa h c N) ∧ am_fr (am_nwa h c N) j a = k := ⟨Nat.lt_succ_of_lt q.1, q.2⟩
theorem am_ft_r {h : am_H} {k j a f x v : Nat} (hf : j ≠ f) (q : a < am_n h ∧ am_fr h j a = k) : a < am_n (am_ufr h f x v) ∧ am_fr (am_ufr h f x v) j a = k := ⟨q.1, (am_u2n _ _ _ _ hf).trans q.2⟩
theorem am_ft_i {h : am_H} {k j a f x : Nat} {v : Int} (q : a < am_n h ∧ am_fr h j a = k) : a < am_n (am_ufi h f x v) ∧ am_fr (am_ufi h f x v) j a = k := q
theorem am_ft_q {h : am_H} {k j a x v : Nat} {i : Int} (q : a < am_n h ∧ am_fr h j a = k) : a < am_n (am_uar h x i v) ∧ am_fr (am_uar h x i v) j a = k := q
def So_mk (h : am_H) (a : Nat) : am_H :=
  let h1 := am_nwa h 1000 4
  let h2 := am_ufr h1 6 a (am_n h)
  let h3 := am_nwa h2 1000 4
  let h4 := am_ufr h3 7 a (am_n h2)
  let h5 := am_nwa h4 1002 64
  let h6 := am_ufr h5 8 a (am_n h4)
  let h7 := am_nwa h6 1000 256
  let h8 := am_ufr h7 9 a (am_n h6)
  am_ufi h8 10 a 0
theorem So_mk_ok {h : am_H} {a x : Nat} {p : Nat × Nat} (hok : 16 ≤ x ∧ x < am_n h ∧ am_c h x = p) : 16 ≤ x ∧ x < am_n (So_mk h a) ∧ am_c (So_mk h a) x = p := (am_ok_i (am_ok_r (am_ok_a (am_ok_r (am_ok_a (am_ok_r (am_ok_a (am_ok_r (am_ok_a hok)))))))))
theorem So_mk_16 {h : am_H} {a : Nat} (h16 : 16 ≤ am_n h) : 16 ≤ am_n (So_mk h a) := (am_16i (am_16r (am_16a (am_16r (am_16a (am_16r (am_16a (am_16r (am_16a h16)))))))))
set_option maxHeartbeats 1000000 in
set_option maxRecDepth 100000 in
theorem c_So_init (d : Nat) (h : am_H) (a : Nat) (hok : am_ok h a 1) : am_M am_prog (d + 2) m_So_init [.inr (.inr a)] h (fun v h' => v = none ∧ h' = So_mk h a) := by
  have h16 : 16 ≤ am_n h := Nat.le_of_lt (Nat.lt_of_le_of_lt hok.1 hok.2.1)
  refine am_W.of rfl rfl ?_
  refine am_W.ci rfl rfl rfl ⟨trivial, hok.1⟩ (am_obj hok.1) ?_
  rintro r1 h1 ⟨rfl, rfl⟩
  exact am_W.rt rfl rfl ⟨⟨⟨⟨⟨⟨⟨⟨⟨⟨trivial, ⟨by decide, by decide⟩⟩, (am_ok_a hok)⟩, ⟨by decide, by decide⟩⟩, (am_ok_a (am_ok_r (am_ok_a hok)))⟩, ⟨by decide, by decide⟩⟩, (am_ok_a (am_ok_r (am_ok_a (am_ok_r (am_ok_a hok)))))⟩, ⟨by decide, by decide⟩⟩, (am_ok_a (am_ok_r (am_ok_a (am_ok_r (am_ok_a (am_ok_r (am_ok_a hok)))))))⟩, (am_ok_r (am_ok_a (am_ok_r (am_ok_a (am_ok_r (am_ok_a (am_ok_r (am_ok_a hok))))))))⟩, trivial⟩ ⟨rfl, rfl⟩
def To_mk (h : am_H) (a : Nat) : am_H :=
  let h1 := am_nwa h 1000 500
  let h2 := am_ufr h1 13 a (am_n h)
  let h3 := am_ufi h2 14 a 0
  let h4 := am_ufi h3 15 a 0
  let h5 := am_ufi h4 16 a 0
  let h6 := am_ufi h5 17 a (-1)
  am_ufi h6 18 a 0
theorem To_mk_ok {h : am_H} {a x : Nat} {p : Nat × Nat} (hok : 16 ≤ x ∧ x < am_n h ∧ am_c h x = p) : 16 ≤ x ∧ x < am_n (To_mk h a) ∧ am_c (To_mk h a) x = p := (am_ok_i (am_ok_i (am_ok_i (am_ok_i (am_ok_i (am_ok_r (am_ok_a hok)))))))
theorem To_mk_16 {h : am_H} {a : Nat} (h16 : 16 ≤ am_n h) : 16 ≤ am_n (To_mk h a) := (am_16i (am_16i (am_16i (am_16i (am_16i (am_16r (am_16a h16)))))))
set_option maxHeartbeats 1000000 in
set_option maxRecDepth 100000 in
theorem c_To_init (d : Nat) (h : am_H) (a : Nat) (hok : am_ok h a 3) : am_M am_prog (d + 2) m_To_init [.inr (.inr a)] h (fun v h' => v = none ∧ h' = To_mk h a) := by
  have h16 : 16 ≤ am_n h := Nat.le_of_lt (Nat.lt_of_le_of_lt hok.1 hok.2.1)
  refine am_W.of rfl rfl ?_
  refine am_W.ci rfl rfl rfl ⟨trivial, hok.1⟩ (am_obj hok.1) ?_
  rintro r1 h1 ⟨rfl, rfl⟩
  exact am_W.rt rfl rfl ⟨⟨⟨⟨⟨⟨⟨⟨trivial, ⟨by decide, by decide⟩⟩, (am_ok_a hok)⟩, (am_ok_r (am_ok_a hok))⟩, (am_ok_i (am_ok_r (am_ok_a hok)))⟩, (am_ok_i (am_ok_i (am_ok_r (am_ok_a hok))))⟩, (am_ok_i (am_ok_i (am_ok_i (am_ok_r (am_ok_a hok)))))⟩, (am_ok_i (am_ok_i (am_ok_i (am_ok_i (am_ok_r (am_ok_a hok))))))⟩, trivial⟩ ⟨rfl, rfl⟩
def Re_mk (h : am_H) (a : Nat) : am_H :=
  let h1 := am_nwo h 3 6
  let h2 := To_mk h1 (am_n h)
  let h3 := am_ufr h2 11 a (am_n h)
  am_ufi h3 12 a 0
theorem Re_mk_ok {h : am_H} {a x : Nat} {p : Nat × Nat} (hok : 16 ≤ x ∧ x < am_n h ∧ am_c h x = p) : 16 ≤ x ∧ x < am_n (Re_mk h a) ∧ am_c (Re_mk h a) x = p := (am_ok_i (am_ok_r (To_mk_ok (am_ok_o hok))))
theorem Re_mk_16 {h : am_H} {a : Nat} (h16 : 16 ≤ am_n h) : 16 ≤ am_n (Re_mk h a) := (am_16i (am_16r (To_mk_16 (am_16o h16))))
set_option maxHeartbeats 1000000 in
set_option maxRecDepth 100000 in
theorem c_Re_init (d : Nat) (h : am_H) (a : Nat) (hok : am_ok h a 2) : am_M am_prog (d + 3) m_Re_init [.inr (.inr a)] h (fun v h' => v = none ∧ h' = Re_mk h a) := by
  have h16 : 16 ≤ am_n h := Nat.le_of_lt (Nat.lt_of_le_of_lt hok.1 hok.2.1)
  refine am_W.of rfl rfl ?_
  refine am_W.ci rfl rfl rfl ⟨trivial, hok.1⟩ (am_obj hok.1) ?_
  rintro r1 h1 ⟨rfl, rfl⟩
  refine am_W.ci rfl rfl rfl ⟨⟨trivial, trivial⟩, (am_ok_n (c := 3) (N := 6) h16).1⟩ (c_To_init d _ _ (am_ok_n (c := 3) (N := 6) h16)) ?_
  rintro r1 h1 ⟨rfl, rfl⟩
  exact am_W.rt rfl rfl ⟨⟨⟨trivial, (To_mk_ok (am_ok_o hok))⟩, (am_ok_r (To_mk_ok (am_ok_o hok)))⟩, trivial⟩ ⟨rfl, rfl⟩
def Te_mk (h : am_H) (a : Nat) : am_H :=
  let h1 := am_nwa h 1001 867
  let h2 := am_ufr h1 32 a (am_n h)
  let h3 := am_ufi h2 33 a 0
  am_ufi h3 34 a 0
theorem Te_mk_ok {h : am_H} {a x : Nat} {p : Nat × Nat} (hok : 16 ≤ x ∧ x < am_n h ∧ am_c h x = p) : 16 ≤ x ∧ x < am_n (Te_mk h a) ∧ am_c (Te_mk h a) x = p := (am_ok_i (am_ok_i (am_ok_r (am_ok_a hok))))
theorem Te_mk_16 {h : am_H} {a : Nat} (h16 : 16 ≤ am_n h) : 16 ≤ am_n (Te_mk h a) := (am_16i (am_16i (am_16r (am_16a h16))))
set_option maxHeartbeats 1000000 in
set_option maxRecDepth 100000 in
theorem c_Te_init (d : Nat) (h : am_H) (a : Nat) (hok : am_ok h a 5) : am_M am_prog (d + 3) m_Te_init [.inr (.inr a)] h (fun v h' => v = none ∧ h' = Te_mk h a) := by
  have h16 : 16 ≤ am_n h := Nat.le_of_lt (Nat.lt_of_le_of_lt hok.1 hok.2.1)
  refine am_W.of rfl rfl ?_
  refine am_W.ci rfl rfl rfl ⟨trivial, hok.1⟩ (c_Si_init d _ _ hok.1) ?_
  rintro r1 h1 ⟨rfl, rfl⟩
  exact am_W.rt rfl rfl ⟨⟨⟨⟨⟨trivial, ⟨by decide, by decide⟩⟩, (am_ok_a hok)⟩, (am_ok_r (am_ok_a hok))⟩, (am_ok_i (am_ok_r (am_ok_a hok)))⟩, trivial⟩ ⟨rfl, rfl⟩
def Gi_mk (h : am_H) (a : Nat) : am_H :=
  let h1 := am_nwo h 5 3
  let h2 := Te_mk h1 (am_n h)
  let h3 := am_ufr h2 19 a (am_n h)
  let h4 := am_nwa h3 1001 1536
  let h5 := am_ufr h4 20 a (am_n h3)
  let h6 := am_nwa h5 1000 6
  let h7 := am_ufr h6 21 a (am_n h5)
  let h8 := am_nwa h7 1000 1536
  let h9 := am_ufr h8 22 a (am_n h7)
  let h10 := am_nwa h9 1000 1536
  let h11 := am_ufr h10 23 a (am_n h9)
  let h12 := am_ufi h11 24 a 0
  let h13 := am_nwa h12 1000 1537
  let h14 := am_ufr h13 25 a (am_n h12)
  let h15 := am_nwa h14 1000 1536
  let h16 := am_ufr h15 26 a (am_n h14)
  let h17 := am_ufi h16 27 a 0
  let h18 := am_nwa h17 1000 96
  let h19 := am_ufr h18 28 a (am_n h17)
  let h20 := am_nwa h19 1000 96
  let h21 := am_ufr h20 29 a (am_n h19)
  let h22 := am_ufi h21 30 a 0
  am_ufi h22 31 a 0
theorem Gi_mk_ok {h : am_H} {a x : Nat} {p : Nat × Nat} (hok : 16 ≤ x ∧ x < am_n h ∧ am_c h x = p) : 16 ≤ x ∧ x < am_n (Gi_mk h a) ∧ am_c (Gi_mk h a) x = p := (am_ok_i (am_ok_i (am_ok_r (am_ok_a (am_ok_r (am_ok_a (am_ok_i (am_ok_r (am_ok_a (am_ok_r (am_ok_a (am_ok_i (am_ok_r (am_ok_a (am_ok_r (am_ok_a (am_ok_r (am_ok_a (am_ok_r (am_ok_a (am_ok_r (Te_mk_ok (am_ok_o hok)))))))))))))))))))))))
theorem Gi_mk_16 {h : am_H} {a : Nat} (h16 : 16 ≤ am_n h) : 16 ≤ am_n (Gi_mk h a) := (am_16i (am_16i (am_16r (am_16a (am_16r (am_16a (am_16i (am_16r (am_16a (am_16r (am_16a (am_16i (am_16r (am_16a (am_16r (am_16a (am_16r (am_16a (am_16r (am_16a (am_16r (Te_mk_16 (am_16o h16)))))))))))))))))))))))
set_option maxHeartbeats 1000000 in
set_option maxRecDepth 100000 in
theorem c_Gi_init (d : Nat) (h : am_H) (a : Nat) (hok : am_ok h a 4) : am_M am_prog (d + 4) m_Gi_init [.inr (.inr a)] h (fun v h' => v = none ∧ h' = Gi_mk h a) := by
  have h16 : 16 ≤ am_n h := Nat.le_of_lt (Nat.lt_of_le_of_lt hok.1 hok.2.1)
  refine am_W.of rfl rfl ?_
  refine am_W.ci rfl rfl rfl ⟨trivial, hok.1⟩ (am_obj hok.1) ?_
  rintro r1 h1 ⟨rfl, rfl⟩
  refine am_W.ci rfl rfl rfl ⟨⟨trivial, trivial⟩, (am_ok_n (c := 5) (N := 3) h16).1⟩ (c_Te_init d _ _ (am_ok_n (c := 5) (N := 3) h16)) ?_
  rintro r1 h1 ⟨rfl, rfl⟩
  exact am_W.rt rfl rfl ⟨⟨⟨⟨⟨⟨⟨⟨⟨⟨⟨⟨⟨⟨⟨⟨⟨⟨⟨⟨⟨⟨trivial, (Te_mk_ok (am_ok_o hok))⟩, ⟨by decide, by decide⟩⟩, (am_ok_a (am_ok_r (Te_mk_ok (am_ok_o hok))))⟩, ⟨by decide, by decide⟩⟩, (am_ok_a (am_ok_r (am_ok_a (am_ok_r (Te_mk_ok (am_ok_o hok))))))⟩, ⟨by decide, by decide⟩⟩, (am_ok_a (am_ok_r (am_ok_a (am_ok_r (am_ok_a (am_ok_r (Te_mk_ok (am_ok_o hok))))))))⟩, ⟨by decide, by decide⟩⟩, (am_ok_a (am_ok_r (am_ok_a (am_ok_r (am_ok_a (am_ok_r (am_ok_a (am_ok_r (Te_mk_ok (am_ok_o hok))))))))))⟩, (am_ok_r (am_ok_a (am_ok_r (am_ok_a (am_ok_r (am_ok_a (am_ok_r (am_ok_a (am_ok_r (Te_mk_ok (am_ok_o hok)))))))))))⟩, ⟨by decide, by decide⟩⟩, (am_ok_a (am_ok_i (am_ok_r (am_ok_a (am_ok_r (am_ok_a (am_ok_r (am_ok_a (am_ok_r (am_ok_a (am_ok_r (Te_mk_ok (am_ok_o hok)))))))))))))⟩, ⟨by decide, by decide⟩⟩, (am_ok_a (am_ok_r (am_ok_a (am_ok_i (am_ok_r (am_ok_a (am_ok_r (am_ok_a (am_ok_r (am_ok_a (am_ok_r (am_ok_a (am_ok_r (Te_mk_ok (am_ok_o hok)))))))))))))))⟩, (am_ok_r (am_ok_a (am_ok_r (am_ok_a (am_ok_i (am_ok_r (am_ok_a (am_ok_r (am_ok_a (am_ok_r (am_ok_a (am_ok_r (am_ok_a (am_ok_r (Te_mk_ok (am_ok_o hok))))))))))))))))⟩, ⟨by decide, by decide⟩⟩, (am_ok_a (am_ok_i (am_ok_r (am_ok_a (am_ok_r (am_ok_a (am_ok_i (am_ok_r (am_ok_a (am_ok_r (am_ok_a (am_ok_r (am_ok_a (am_ok_r (am_ok_a (am_ok_r (Te_mk_ok (am_ok_o hok))))))))))))))))))⟩, ⟨by decide, by decide⟩⟩, (am_ok_a (am_ok_r (am_ok_a (am_ok_i (am_ok_r (am_ok_a (am_ok_r (am_ok_a (am_ok_i (am_ok_r (am_ok_a (am_ok_r (am_ok_a (am_ok_r (am_ok_a (am_ok_r (am_ok_a (am_ok_r (Te_mk_ok (am_ok_o hok))))))))))))))))))))⟩, (am_ok_r (am_ok_a (am_ok_r (am_ok_a (am_ok_i (am_ok_r (am_ok_a (am_ok_r (am_ok_a (am_ok_i (am_ok_r (am_ok_a (am_ok_r (am_ok_a (am_ok_r (am_ok_a (am_ok_r (am_ok_a (am_ok_r (Te_mk_ok (am_ok_o hok)))))))))))))))))))))⟩, ⟨(am_ok_i (am_ok_r (am_ok_a (am_ok_r (am_ok_a (am_ok_i (am_ok_r (am_ok_a (am_ok_r (am_ok_a (am_ok_i (am_ok_r (am_ok_a (am_ok_r (am_ok_a (am_ok_r (am_ok_a (am_ok_r (am_ok_a (am_ok_r (Te_mk_ok (am_ok_o hok)))))))))))))))))))))), Or.inl rfl⟩⟩, trivial⟩ ⟨rfl, rfl⟩
def Pr_mk (h : am_H) (a : Nat) : am_H :=
  let h1 := am_nwa h 1000 626
  let h2 := am_ufr h1 35 a (am_n h)
  am_ufi h2 36 a 0
theorem Pr_mk_ok {h : am_H} {a x : Nat} {p : Nat × Nat} (hok : 16 ≤ x ∧ x < am_n h ∧ am_c h x = p) : 16 ≤ x ∧ x < am_n (Pr_mk h a) ∧ am_c (Pr_mk h a) x = p := (am_ok_i (am_ok_r (am_ok_a hok)))
theorem Pr_mk_16 {h : am_H} {a : Nat} (h16 : 16 ≤ am_n h) : 16 ≤ am_n (Pr_mk h a) := (am_16i (am_16r (am_16a h16)))
set_option maxHeartbeats 1000000 in
set_option maxRecDepth 100000 in
theorem c_Pr_init (d : Nat) (h : am_H) (a : Nat) (hok : am_ok h a 6) : am_M am_prog (d + 3) m_Pr_init [.inr (.inr a)] h (fun v h' => v = none ∧ h' = Pr_mk h a) := by
  have h16 : 16 ≤ am_n h := Nat.le_of_lt (Nat.lt_of_le_of_lt hok.1 hok.2.1)
  refine am_W.of rfl rfl ?_
  refine am_W.ci rfl rfl rfl ⟨trivial, hok.1⟩ (c_Si_init d _ _ hok.1) ?_
  rintro r1 h1 ⟨rfl, rfl⟩
  exact am_W.rt rfl rfl ⟨⟨⟨⟨trivial, ⟨by decide, by decide⟩⟩, (am_ok_a hok)⟩, (am_ok_r (am_ok_a hok))⟩, trivial⟩ ⟨rfl, rfl⟩
def Pa_mk (h : am_H) (a : Nat) : am_H :=
  let h1 := am_ufi h 50 a 0
  let h2 := am_ufi h1 51 a 0
  let h3 := am_nwa h2 1000 30
  let h4 := am_ufr h3 52 a (am_n h2)
  am_ufi h4 53 a 0
theorem Pa_mk_ok {h : am_H} {a x : Nat} {p : Nat × Nat} (hok : 16 ≤ x ∧ x < am_n h ∧ am_c h x = p) : 16 ≤ x ∧ x < am_n (Pa_mk h a) ∧ am_c (Pa_mk h a) x = p := (am_ok_i (am_ok_r (am_ok_a (am_ok_i (am_ok_i hok)))))
theorem Pa_mk_16 {h : am_H} {a : Nat} (h16 : 16 ≤ am_n h) : 16 ≤ am_n (Pa_mk h a) := (am_16i (am_16r (am_16a (am_16i (am_16i h16)))))
theorem Pa_mk_37 {h : am_H} {k a x : Nat} (q : x < am_n h ∧ am_fr h 37 x = k) : x < am_n (Pa_mk h a) ∧ am_fr (Pa_mk h a) 37 x = k := (am_ft_i (am_ft_r (by decide) (am_ft_a (am_ft_i (am_ft_i q)))))
set_option maxHeartbeats 1000000 in
set_option maxRecDepth 100000 in
theorem c_Pa_init (d : Nat) (h : am_H) (a : Nat) (hok : am_ok h a 9) : am_M am_prog (d + 2) m_Pa_init [.inr (.inr a)] h (fun v h' => v = none ∧ h' = Pa_mk h a) := by
  have h16 : 16 ≤ am_n h := Nat.le_of_lt (Nat.lt_of_le_of_lt hok.1 hok.2.1)
  refine am_W.of rfl rfl ?_
  refine am_W.ci rfl rfl rfl ⟨trivial, hok.1⟩ (am_obj hok.1) ?_
  rintro r1 h1 ⟨rfl, rfl⟩
  exact am_W.rt rfl rfl ⟨⟨⟨⟨⟨⟨trivial, hok⟩, (am_ok_i hok)⟩, ⟨by decide, by decide⟩⟩, (am_ok_a (am_ok_i (am_ok_i hok)))⟩, (am_ok_r (am_ok_a (am_ok_i (am_ok_i hok))))⟩, trivial⟩ ⟨rfl, rfl⟩
def Ma_mk (h : am_H) (a : Nat) : am_H :=
  let h1 := am_ufi h 39 a 0
  let h2 := am_nwo h1 9 4
  let h3 := Pa_mk h2 (am_n h1)
  let h4 := am_ufr h3 40 a (am_n h1)
  let h5 := am_nwo h4 9 4
  let h6 := Pa_mk h5 (am_n h4)
  let h7 := am_ufr h6 41 a (am_n h4)
  let h8 := am_nwo h7 9 4
  let h9 := Pa_mk h8 (am_n h7)
  let h10 := am_ufr h9 42 a (am_n h7)
  let h11 := am_ufi h10 43 a (-1)
  let h12 := am_ufi h11 44 a 0
  let h13 := am_ufi h12 45 a 0
  let h14 := am_ufi h13 46 a (-1)
  let h15 := am_ufi h14 47 a 0
  let h16 := am_ufi h15 48 a 0
  am_ufi h16 49 a (-1)
theorem Ma_mk_ok {h : am_H} {a x : Nat} {p : Nat × Nat} (hok : 16 ≤ x ∧ x < am_n h ∧ am_c h x = p) : 16 ≤ x ∧ x < am_n (Ma_mk h a) ∧ am_c (Ma_mk h a) x = p := (am_ok_i (am_ok_i (am_ok_i (am_ok_i (am_ok_i (am_ok_i (am_ok_i (am_ok_r (Pa_mk_ok (am_ok_o (am_ok_r (Pa_mk_ok (am_ok_o (am_ok_r (Pa_mk_ok (am_ok_o (am_ok_i hok)))))))))))))))))
theorem Ma_mk_16 {h : am_H} {a : Nat} (h16 : 16 ≤ am_n h) : 16 ≤ am_n (Ma_mk h a) := (am_16i (am_16i (am_16i (am_16i (am_16i (am_16i (am_16i (am_16r (Pa_mk_16 (am_16o (am_16r (Pa_mk_16 (am_16o (am_16r (Pa_mk_16 (am_16o (am_16i h16)))))))))))))))))
theorem Ma_mk_37 {h : am_H} {k a x : Nat} (q : x < am_n h ∧ am_fr h 37 x = k) : x < am_n (Ma_mk h a) ∧ am_fr (Ma_mk h a) 37 x = k := (am_ft_i (am_ft_i (am_ft_i (am_ft_i (am_ft_i (am_ft_i (am_ft_i (am_ft_r (by decide) (Pa_mk_37 (am_ft_o (am_ft_r (by decide) (Pa_mk_37 (am_ft_o (am_ft_r (by decide) (Pa_mk_37 (am_ft_o (am_ft_i q)))))))))))))))))
set_option maxHeartbeats 1000000 in
set_option maxRecDepth 100000 in
theorem c_Ma_init (d : Nat) (h : am_H) (a : Nat) (hok : am_ok h a 8) : am_M am_prog (d + 3) m_Ma_init [.inr (.inr a)] h (fun v h' => v = none ∧ h' = Ma_mk h a) := by
  have h16 : 16 ≤ am_n h := Nat.le_of_lt (Nat.lt_of_le_of_lt hok.1 hok.2.1)
  refine am_W.of rfl rfl ?_
  refine am_W.ci rfl rfl rfl ⟨trivial, hok.1⟩ (am_obj hok.1) ?_
  rintro r1 h1 ⟨rfl, rfl⟩
  refine am_W.ci rfl rfl rfl ⟨⟨⟨trivial, hok⟩, trivial⟩, (am_ok_n (c := 9) (N := 4) (am_16i h16)).1⟩ (c_Pa_init d _ _ (am_ok_n (c := 9) (N := 4) (am_16i h16))) ?_
  rintro r1 h1 ⟨rfl, rfl⟩
  refine am_W.ci rfl rfl rfl ⟨⟨⟨trivial, (Pa_mk_ok (am_ok_o (am_ok_i hok)))⟩, trivial⟩, (am_ok_n (c := 9) (N := 4) (am_16r (Pa_mk_16 (am_16o (am_16i h16))))).1⟩ (c_Pa_init d _ _ (am_ok_n (c := 9) (N := 4) (am_16r (Pa_mk_16 (am_16o (am_16i h16)))))) ?_
  rintro r1 h1 ⟨rfl, rfl⟩
  refine am_W.ci rfl rfl rfl ⟨⟨⟨trivial, (Pa_mk_ok (am_ok_o (am_ok_r (Pa_mk_ok (am_ok_o (am_ok_i hok))))))⟩, trivial⟩, (am_ok_n (c := 9) (N := 4) (am_16r (Pa_mk_16 (am_16o (am_16r (Pa_mk_16 (am_16o (am_16i h16)))))))).1⟩ (c_Pa_init d _ _ (am_ok_n (c := 9) (N := 4) (am_16r (Pa_mk_16 (am_16o (am_16r (Pa_mk_16 (am_16o (am_16i h16))))))))) ?_
  rintro r1 h1 ⟨rfl, rfl⟩
  exact am_W.rt rfl rfl ⟨⟨⟨⟨⟨⟨⟨⟨⟨trivial, (Pa_mk_ok (am_ok_o (am_ok_r (Pa_mk_ok (am_ok_o (am_ok_r (Pa_mk_ok (am_ok_o (am_ok_i hok)))))))))⟩, (am_ok_r (Pa_mk_ok (am_ok_o (am_ok_r (Pa_mk_ok (am_ok_o (am_ok_r (Pa_mk_ok (am_ok_o (am_ok_i hok))))))))))⟩, (am_ok_i (am_ok_r (Pa_mk_ok (am_ok_o (am_ok_r (Pa_mk_ok (am_ok_o (am_ok_r (Pa_mk_ok (am_ok_o (am_ok_i hok)))))))))))⟩, (am_ok_i (am_ok_i (am_ok_r (Pa_mk_ok (am_ok_o (am_ok_r (Pa_mk_ok (am_ok_o (am_ok_r (Pa_mk_ok (am_ok_o (am_ok_i hok))))))))))))⟩, (am_ok_i (am_ok_i (am_ok_i (am_ok_r (Pa_mk_ok (am_ok_o (am_ok_r (Pa_mk_ok (am_ok_o (am_ok_r (Pa_mk_ok (am_ok_o (am_ok_i hok)))))))))))))⟩, (am_ok_i (am_ok_i (am_ok_i (am_ok_i (am_ok_r (Pa_mk_ok (am_ok_o (am_ok_r (Pa_mk_ok (am_ok_o (am_ok_r (Pa_mk_ok (am_ok_o (am_ok_i hok))))))))))))))⟩, (am_ok_i (am_ok_i (am_ok_i (am_ok_i (am_ok_i (am_ok_r (Pa_mk_ok (am_ok_o (am_ok_r (Pa_mk_ok (am_ok_o (am_ok_r (Pa_mk_ok (am_ok_o (am_ok_i hok)))))))))))))))⟩, (am_ok_i (am_ok_i (am_ok_i (am_ok_i (am_ok_i (am_ok_i (am_ok_r (Pa_mk_ok (am_ok_o (am_ok_r (Pa_mk_ok (am_ok_o (am_ok_r (Pa_mk_ok (am_ok_o (am_ok_i hok))))))))))))))))⟩, trivial⟩ ⟨rfl, rfl⟩

def Ms_it (h : am_H) (r : Nat) (i : Int) (n : Nat) : am_H := am_uar (Ma_mk (am_nwo h 8 11) n) r i n
def Ms_mk (h : am_H) (a : Nat) : am_H := Ms_it (Ms_it (Ms_it (Ms_it (Ms_it (Ms_it (am_ufi (am_ufr (am_nwa h 1004 6) 37 a (a + 1)) 38 a 0) (a + 1) 0 (a + 2)) (a + 1) 1 (a + 9)) (a + 1) 2 (a + 16)) (a + 1) 3 (a + 23)) (a + 1) 4 (a + 30)) (a + 1) 5 (a + 37)
def HC0 (L : Nat) (xs : Nat → Int32) : am_H := am_nwo (am_h0 L xs) 0 6
def HC1 (L : Nat) (xs : Nat → Int32) : am_H := am_ufr (So_mk (am_nwo (HC0 L xs) 1 5) 17) 0 16 17
def HC2 (L : Nat) (xs : Nat → Int32) : am_H := am_ufr (Re_mk (am_nwo (HC1 L xs) 2 2) 22) 1 16 22
def HC3 (L : Nat) (xs : Nat → Int32) : am_H := am_ufr (Gi_mk (am_nwo (HC2 L xs) 4 13) 25) 2 16 25
def HC4 (L : Nat) (xs : Nat → Int32) : am_H := am_ufr (Pr_mk (am_nwo (HC3 L xs) 6 2) 36) 3 16 36
def HC5 (L : Nat) (xs : Nat → Int32) : am_H := am_nwo (HC4 L xs) 7 2
def HC6 (L : Nat) (xs : Nat → Int32) : am_H := am_ufr (Ms_mk (HC5 L xs) 38) 4 16 38
def HC7 (L : Nat) (xs : Nat → Int32) : am_H := am_nwo (HC6 L xs) 7 2
def HC8 (L : Nat) (xs : Nat → Int32) : am_H := am_ufr (Ms_mk (HC7 L xs) 82) 5 16 82
def HM0 (L : Nat) (xs : Nat → Int32) : am_H := am_nwo (HC8 L xs) 10 57
