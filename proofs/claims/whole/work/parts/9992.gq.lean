-- the class's Given: what it is asked
set_option maxHeartbeats 400000 in
set_option maxRecDepth 100000 in
theorem c_hasTriple (d L B1 B2 : Nat) (fi : Nat → Nat → Int) (ai aj : Nat → Int → Int) (i n : Int) (hi : am_R i) (h27 : fi 27 25 = n) (hn : 0 ≤ n ∧ n ≤ 1536) : am_M am_prog (d + 1) m_Gi_hasTriple [.inr (.inr 25), .inl i] (HH L B1 B2 fi ai aj) (fun v h' => v = some (.inl (if 0 ≤ i ∧ i < n then 1 else 0)) ∧ h' = HH L B1 B2 fi ai aj) := by
  have e27 : am_fi (HH L B1 B2 fi ai aj) 27 25 = n := h27
  refine am_W.of rfl rfl ?_
  by_cases h0 : i < 0
  · rw [if_neg (by omega)]
    refine am_W.br rfl rfl ⟨trivial, hi⟩ (fun z => ?_) (fun z => absurd h0 z)
    exact am_W.rt rfl rfl ⟨trivial, Or.inl rfl⟩ ⟨rfl, rfl⟩
  · refine am_W.br rfl rfl ⟨trivial, hi⟩ (fun z => absurd z h0) (fun z => ?_)
    by_cases h1 : i < n
    · rw [if_pos (by omega)]
      refine am_W.br rfl rfl ⟨⟨trivial, okI rfl rfl rfl⟩, hi, by rw [e27]; exact ⟨by omega, by omega⟩⟩ (fun z => absurd z (by rw [e27]; omega)) (fun z => ?_)
      exact am_W.rt rfl rfl ⟨trivial, Or.inr rfl⟩ ⟨rfl, rfl⟩
    · rw [if_neg (by omega)]
      refine am_W.br rfl rfl ⟨⟨trivial, okI rfl rfl rfl⟩, hi, by rw [e27]; exact ⟨by omega, by omega⟩⟩ (fun z => ?_) (fun z => absurd (by rw [e27]; omega) z)
      exact am_W.rt rfl rfl ⟨trivial, Or.inl rfl⟩ ⟨rfl, rfl⟩
def GQ (P : List Int) (f : Nat → Nat → Int) (a j : Nat → Int → Int) (T : Int → Int → Int × List Int) : Prop := P.length ≤ 1536 ∧ f 27 25 = (P.length : Int) ∧ (∀ i : Nat, i < P.length → (0 ≤ a 32 (i : Int) ∧ a 32 (i : Int) < 1536) ∧ a 30 (a 32 (i : Int)) = gD P i ∧ wok a j (gD P i) ∧ (∀ t, 0 ≤ t → t < 3 → tOK (T (gD P i) t) ∧ ∀ k, 0 ≤ k → k < 3 → WO j (gD P i) t k = wd (T (gD P i) t).1 (T (gD P i) t).2 k))
set_option maxHeartbeats 400000 in
set_option maxRecDepth 100000 in
theorem c_leastWay (d L B1 B2 : Nat) (fi : Nat → Nat → Int) (ai aj : Nat → Int → Int) (P : List Int) (T : Int → Int → Int × List Int) (i : Int) (hQ : GQ P fi ai aj T) (hi : 0 ≤ i ∧ i < (P.length : Int)) : am_M am_prog (d + 2) m_Gi_leastWay [.inr (.inr 25), .inl i] (HH L B1 B2 fi ai aj) (fun v h' => v = some (.inl (gD P i.toNat)) ∧ h' = HH L B1 B2 fi ai aj) := by
  obtain ⟨q1, q2, q3⟩ := hQ
  have q := q3 i.toNat (by omega)
  rw [show ((i.toNat : Nat) : Int) = i by omega] at q
  have ok25 : am_ok (HH L B1 B2 fi ai aj) 25 4 := okI rfl rfl rfl
  refine am_W.of rfl rfl ?_
  refine am_W.cv 4 m_Gi_hasTriple rfl rfl rfl rfl ⟨trivial, ok25⟩ (c_hasTriple d L B1 B2 fi ai aj i (P.length : Int) ⟨by omega, by omega⟩ q2 ⟨by omega, by omega⟩) ?_
  rintro r1 h1 ⟨rfl, rfl⟩
  rw [if_pos hi]
  refine am_W.br rfl rfl ⟨trivial, ⟨by omega, by omega⟩⟩ (fun z => absurd z (by decide)) (fun z => ?_)
  have eS : am_ai (HH L B1 B2 fi ai aj) (am_fr (HH L B1 B2 fi ai aj) 25 25) i = ai 32 i := rfl
  refine am_W.rt rfl rfl ⟨⟨⟨⟨⟨trivial, ok25⟩, ok25⟩, okrI rfl rfl (t := 1000) (N := 1537) rfl rfl (by omega) (by omega)⟩, by rw [eS]; exact okrI rfl rfl (t := 1000) (N := 1536) rfl rfl (by omega) (by omega)⟩, trivial⟩ ⟨?_, rfl⟩
  exact congrArg (fun z => some (Sum.inl z)) q.2.1
set_option maxHeartbeats 400000 in
set_option maxRecDepth 100000 in
theorem c_kindOf (d L B1 B2 : Nat) (fi : Nat → Nat → Int) (ai aj : Nat → Int → Int) (P : List Int) (T : Int → Int → Int × List Int) (i t : Int) (hQ : GQ P fi ai aj T) (hi : 0 ≤ i ∧ i < (P.length : Int)) (ht : 0 ≤ t ∧ t < 3) : am_M am_prog (d + 3) m_Gi_kindOf [.inr (.inr 25), .inl i, .inl t] (HH L B1 B2 fi ai aj) (fun v h' => v = some (.inl (T (gD P i.toNat) t).1) ∧ h' = HH L B1 B2 fi ai aj) := by
  have q := hQ.2.2 i.toNat (by omega)
  have ok25 : am_ok (HH L B1 B2 fi ai aj) 25 4 := okI rfl rfl rfl
  refine am_W.of rfl rfl ?_
  refine am_W.cv 4 m_Gi_leastWay rfl rfl rfl rfl ⟨trivial, ok25⟩ (c_leastWay d L B1 B2 fi ai aj P T i hQ hi) ?_
  rintro r1 h1 ⟨rfl, rfl⟩
  refine am_W.cv 4 m_Gi_wordOf rfl rfl rfl rfl ⟨trivial, ok25⟩ (c_wordOf (d + 1) L B1 B2 fi ai aj (gD P i.toNat) t 0 q.2.2.1 ht ⟨by omega, by omega⟩) ?_
  rintro r1 h1 ⟨rfl, rfl⟩
  obtain ⟨k1, k2⟩ := q.2.2.2 t ht.1 ht.2
  refine am_W.rt rfl rfl ⟨trivial, trivial⟩ ⟨?_, rfl⟩
  rw [k2 0 (by omega) (by omega), wd_kind k1.1 k1.2.1]
set_option maxHeartbeats 400000 in
set_option maxRecDepth 100000 in
theorem c_termByte (d L B1 B2 : Nat) (fi : Nat → Nat → Int) (ai aj : Nat → Int → Int) (P : List Int) (T : Int → Int → Int × List Int) (i t k : Int) (hQ : GQ P fi ai aj T) (hi : 0 ≤ i ∧ i < (P.length : Int)) (ht : 0 ≤ t ∧ t < 3) (hk : 0 ≤ k ∧ k < 20) : am_M am_prog (d + 3) m_Gi_termByte [.inr (.inr 25), .inl i, .inl t, .inl k] (HH L B1 B2 fi ai aj) (fun v h' => v = some (.inl ((T (gD P i.toNat) t).2.getD k.toNat 0)) ∧ h' = HH L B1 B2 fi ai aj) := by
  have q := hQ.2.2 i.toNat (by omega)
  have ok25 : am_ok (HH L B1 B2 fi ai aj) 25 4 := okI rfl rfl rfl
  have kR : am_R k ∧ am_R 7 ∧ (7 : Int) ≠ 0 := ⟨⟨by omega, by omega⟩, ⟨by omega, by omega⟩, by omega⟩
  have ed : k.tdiv 7 = ((k.toNat / 7 : Nat) : Int) := by
    rw [Int.tdiv_eq_ediv_of_nonneg hk.1]
    omega
  have em : k.tmod 7 = ((k.toNat % 7 : Nat) : Int) := by
    rw [Int.tmod_eq_emod_of_nonneg hk.1]
    omega
  refine am_W.of rfl rfl ?_
  refine am_W.cv 4 m_Gi_leastWay rfl rfl rfl rfl ⟨trivial, ok25⟩ (c_leastWay d L B1 B2 fi ai aj P T i hQ hi) ?_
  rintro r1 h1 ⟨rfl, rfl⟩
  refine am_W.cv 4 m_Gi_wordOf rfl rfl rfl rfl ⟨⟨trivial, kR⟩, ok25⟩ (by rw [ed]; exact c_wordOf (d + 1) L B1 B2 fi ai aj (gD P i.toNat) t ((k.toNat / 7 : Nat) : Int) q.2.2.1 ht ⟨by omega, by omega⟩) ?_
  rintro r1 h1 ⟨rfl, rfl⟩
  obtain ⟨k1, k2⟩ := q.2.2.2 t ht.1 ht.2
  refine am_W.rt rfl rfl ⟨⟨trivial, kR⟩, trivial⟩ ⟨?_, rfl⟩
  rw [k2 ((k.toNat / 7 : Nat) : Int) (by omega) (by omega), em, wd_byte k1.1 k1.2.1 (by omega)]
set_option maxHeartbeats 400000 in
set_option maxRecDepth 100000 in
theorem l_lengthOf (d L B1 B2 : Nat) (fi : Nat → Nat → Int) (ai aj : Nat → Int → Int) (P : List Int) (T : Int → Int → Int × List Int) (i t : Int) (hQ : GQ P fi ai aj T) (hi : 0 ≤ i ∧ i < (P.length : Int)) (ht : 0 ≤ t ∧ t < 3) : ∀ (n : Nat) (k : Int), 0 ≤ k → k + n = ((T (gD P i.toNat) t).2.length : Int) → am_W (am_ev am_prog (d + 3)) T_Gi_lengthOf (fun v h' => v = some (.inl ((T (gD P i.toNat) t).2.length : Int)) ∧ h' = HH L B1 B2 fi ai aj) (2, [some (.inr (.inr 25)), some (.inl i), some (.inl t), some (.inl k)], [], HH L B1 B2 fi ai aj) := by
  obtain ⟨k1, -⟩ := (hQ.2.2 i.toNat (by omega)).2.2.2 t ht.1 ht.2
  have ok25 : am_ok (HH L B1 B2 fi ai aj) 25 4 := okI rfl rfl rfl
  obtain ⟨-, hb, hn, h1, h20⟩ := k1
  have hT := fun k hk => c_termByte d L B1 B2 fi ai aj P T i t k hQ hi ht hk
  generalize (T (gD P i.toNat) t).2 = l at hb hn h1 h20 hT
  intro n
  induction n with
  | zero =>
    intro k h0 hk
    by_cases h2 : k < 20
    · refine am_W.br rfl rfl ⟨trivial, ⟨by omega, by omega⟩, ⟨by omega, by omega⟩⟩ (fun z => absurd z (by omega)) (fun z => ?_)
      refine am_W.cv 4 m_Gi_termByte rfl rfl rfl rfl ⟨trivial, ok25⟩ (hT k ⟨h0, h2⟩) ?_
      rintro r1 h1 ⟨rfl, rfl⟩
      have e0 : l.getD k.toNat 0 = 0 := by
        rw [List.getD_eq_getElem?_getD, List.getElem?_eq_none (by omega)]
        rfl
      rw [e0]
      refine am_W.br rfl rfl ⟨trivial, ⟨by omega, by omega⟩⟩ (fun z => ?_) (fun z => absurd rfl z)
      refine am_W.rt rfl rfl ⟨trivial, trivial⟩ ⟨?_, rfl⟩
      rw [show k = (l.length : Int) by omega]
    · refine am_W.br rfl rfl ⟨trivial, ⟨by omega, by omega⟩, ⟨by omega, by omega⟩⟩ (fun z => ?_) (fun z => absurd (by omega) z)
      refine am_W.rt rfl rfl ⟨trivial, trivial⟩ ⟨?_, rfl⟩
      rw [show k = (l.length : Int) by omega]
  | succ n ih =>
    intro k h0 hk
    refine am_W.br rfl rfl ⟨trivial, ⟨by omega, by omega⟩, ⟨by omega, by omega⟩⟩ (fun z => absurd z (by omega)) (fun z => ?_)
    refine am_W.cv 4 m_Gi_termByte rfl rfl rfl rfl ⟨trivial, ok25⟩ (hT k ⟨h0, by omega⟩) ?_
    rintro r1 h1 ⟨rfl, rfl⟩
    have hm : l.getD k.toNat 0 ∈ l := by
      rw [List.getD_eq_getElem?_getD, List.getElem?_eq_getElem (by omega)]
      exact List.getElem_mem _
    have e1 := hn _ hm
    have e2 := hb _ hm
    refine am_W.br rfl rfl ⟨trivial, ⟨by omega, by omega⟩⟩ (fun z => absurd z (by omega)) (fun z => ?_)
    exact am_W.gp 2 rfl trivial (ih (k + 1) (by omega) (by omega))
set_option maxHeartbeats 400000 in
set_option maxRecDepth 100000 in
theorem c_lengthOf (d L B1 B2 : Nat) (fi : Nat → Nat → Int) (ai aj : Nat → Int → Int) (P : List Int) (T : Int → Int → Int × List Int) (i t : Int) (hQ : GQ P fi ai aj T) (hi : 0 ≤ i ∧ i < (P.length : Int)) (ht : 0 ≤ t ∧ t < 3) : am_M am_prog (d + 4) m_Gi_lengthOf [.inr (.inr 25), .inl i, .inl t] (HH L B1 B2 fi ai aj) (fun v h' => v = some (.inl ((T (gD P i.toNat) t).2.length : Int)) ∧ h' = HH L B1 B2 fi ai aj) := by
  refine am_W.of rfl rfl ?_
  exact am_W.gp 2 rfl trivial (l_lengthOf d L B1 B2 fi ai aj P T i t hQ hi ht (T (gD P i.toNat) t).2.length 0 (by omega) (by omega))
set_option maxHeartbeats 400000 in
set_option maxRecDepth 100000 in
theorem c_graphOf (d L B1 B2 : Nat) (fi : Nat → Nat → Int) (ai aj : Nat → Int → Int) (P : List Int) (T : Int → Int → Int × List Int) (i : Int) (hQ : GQ P fi ai aj T) (hi : 0 ≤ i ∧ i < (P.length : Int)) : am_M am_prog (d + 3) m_Gi_graphOf [.inr (.inr 25), .inl i] (HH L B1 B2 fi ai aj) (fun v h' => v = some (.inl (ai 29 (gD P i.toNat / 256))) ∧ h' = HH L B1 B2 fi ai aj) := by
  have q := hQ.2.2 i.toNat (by omega)
  have ok25 : am_ok (HH L B1 B2 fi ai aj) 25 4 := okI rfl rfl rfl
  refine am_W.of rfl rfl ?_
  refine am_W.cv 4 m_Gi_leastWay rfl rfl rfl rfl ⟨trivial, ok25⟩ (c_leastWay d L B1 B2 fi ai aj P T i hQ hi) ?_
  rintro r1 h1 ⟨rfl, rfl⟩
  refine am_W.cv 4 m_Gi_graphOfWay rfl rfl rfl rfl ⟨trivial, ok25⟩ (c_graphOfWay (d + 1) L B1 B2 fi ai aj (gD P i.toNat) q.2.2.1) ?_
  rintro r1 h1 ⟨rfl, rfl⟩
  exact am_W.rt rfl rfl ⟨trivial, trivial⟩ ⟨rfl, rfl⟩
set_option maxHeartbeats 400000 in
set_option maxRecDepth 100000 in
theorem c_waysOf (d L B1 B2 : Nat) (fi : Nat → Nat → Int) (ai aj : Nat → Int → Int) (P : List Int) (T : Int → Int → Int × List Int) (i : Int) (hQ : GQ P fi ai aj T) (hi : 0 ≤ i ∧ i < (P.length : Int)) : am_M am_prog (d + 2) m_Gi_waysOf [.inr (.inr 25), .inl i] (HH L B1 B2 fi ai aj) (fun v h' => v = some (.inl (ai 32 (i + 1) - ai 32 i)) ∧ h' = HH L B1 B2 fi ai aj) := by
  have q1 := hQ.1
  have ok25 : am_ok (HH L B1 B2 fi ai aj) 25 4 := okI rfl rfl rfl
  refine am_W.of rfl rfl ?_
  refine am_W.cv 4 m_Gi_hasTriple rfl rfl rfl rfl ⟨trivial, ok25⟩ (c_hasTriple d L B1 B2 fi ai aj i (P.length : Int) ⟨by omega, by omega⟩ hQ.2.1 ⟨by omega, by omega⟩) ?_
  rintro r1 h1 ⟨rfl, rfl⟩
  rw [if_pos hi]
  refine am_W.br rfl rfl ⟨trivial, ⟨by omega, by omega⟩⟩ (fun z => absurd z (by decide)) (fun z => ?_)
  have o1 : am_okr (HH L B1 B2 fi ai aj) (am_fr (HH L B1 B2 fi ai aj) 25 25) 1000 i := okrI rfl rfl (t := 1000) (N := 1537) rfl rfl (by omega) (by omega)
  have o2 : am_okr (HH L B1 B2 fi ai aj) (am_fr (HH L B1 B2 fi ai aj) 25 25) 1000 (i + 1) := okrI rfl rfl (t := 1000) (N := 1537) rfl rfl (by omega) (by omega)
  exact am_W.rt rfl rfl (by repeat' first | assumption | trivial | refine And.intro ?_ ?_) ⟨rfl, rfl⟩
set_option maxHeartbeats 400000 in
set_option maxRecDepth 100000 in
theorem c_leastMapping (d L B1 B2 : Nat) (fi : Nat → Nat → Int) (ai aj : Nat → Int → Int) (P : List Int) (T : Int → Int → Int × List Int) (i : Int) (hQ : GQ P fi ai aj T) (hi : 0 ≤ i ∧ i < (P.length : Int)) : am_M am_prog (d + 3) m_Gi_leastMapping [.inr (.inr 25), .inl i] (HH L B1 B2 fi ai aj) (fun v h' => v = some (.inl (gD P i.toNat / 256)) ∧ h' = HH L B1 B2 fi ai aj) := by
  have hw := (hQ.2.2 i.toNat (by omega)).2.2.1.1
  have ok25 : am_ok (HH L B1 B2 fi ai aj) 25 4 := okI rfl rfl rfl
  refine am_W.of rfl rfl ?_
  refine am_W.cv 4 m_Gi_leastWay rfl rfl rfl rfl ⟨trivial, ok25⟩ (c_leastWay d L B1 B2 fi ai aj P T i hQ hi) ?_
  rintro r1 h1 ⟨rfl, rfl⟩
  generalize gD P i.toNat = w at hw
  have e1 : w.tdiv 16 = w / 16 := Int.tdiv_eq_ediv_of_nonneg hw.1
  have e2 : (w / 16).tdiv 16 = w / 256 := by
    rw [Int.tdiv_eq_ediv_of_nonneg (by omega)]
    omega
  have r1 : am_R w ∧ am_R 16 ∧ (16 : Int) ≠ 0 := ⟨⟨by omega, by omega⟩, ⟨by omega, by omega⟩, by omega⟩
  have r2 : am_R (w.tdiv 16) ∧ am_R 16 ∧ (16 : Int) ≠ 0 := ⟨by rw [e1]; exact ⟨by omega, by omega⟩, ⟨by omega, by omega⟩, by omega⟩
  refine am_W.rt rfl rfl ⟨⟨⟨trivial, r1⟩, r2⟩, trivial⟩ ⟨?_, rfl⟩
  rw [e1, e2]
set_option maxHeartbeats 400000 in
set_option maxRecDepth 100000 in
theorem c_leastRow (d L B1 B2 : Nat) (fi : Nat → Nat → Int) (ai aj : Nat → Int → Int) (P : List Int) (T : Int → Int → Int × List Int) (i : Int) (hQ : GQ P fi ai aj T) (hi : 0 ≤ i ∧ i < (P.length : Int)) : am_M am_prog (d + 3) m_Gi_leastRow [.inr (.inr 25), .inl i] (HH L B1 B2 fi ai aj) (fun v h' => v = some (.inl (gD P i.toNat / 16 % 16)) ∧ h' = HH L B1 B2 fi ai aj) := by
  have hw := (hQ.2.2 i.toNat (by omega)).2.2.1.1
  have ok25 : am_ok (HH L B1 B2 fi ai aj) 25 4 := okI rfl rfl rfl
  refine am_W.of rfl rfl ?_
  refine am_W.cv 4 m_Gi_leastWay rfl rfl rfl rfl ⟨trivial, ok25⟩ (c_leastWay d L B1 B2 fi ai aj P T i hQ hi) ?_
  rintro r1 h1 ⟨rfl, rfl⟩
  generalize gD P i.toNat = w at hw
  have e1 : w.tdiv 16 = w / 16 := Int.tdiv_eq_ediv_of_nonneg hw.1
  have e2 : (w / 16).tmod 16 = w / 16 % 16 := Int.tmod_eq_emod_of_nonneg (by omega)
  have r1 : am_R w ∧ am_R 16 ∧ (16 : Int) ≠ 0 := ⟨⟨by omega, by omega⟩, ⟨by omega, by omega⟩, by omega⟩
  have r2 : am_R (w.tdiv 16) ∧ am_R 16 ∧ (16 : Int) ≠ 0 := ⟨by rw [e1]; exact ⟨by omega, by omega⟩, ⟨by omega, by omega⟩, by omega⟩
  refine am_W.rt rfl rfl ⟨⟨⟨trivial, r1⟩, r2⟩, trivial⟩ ⟨?_, rfl⟩
  rw [e1, e2]
set_option maxHeartbeats 400000 in
set_option maxRecDepth 100000 in
theorem c_tripleBy (d L B1 B2 : Nat) (fi : Nat → Nat → Int) (ai aj : Nat → Int → Int) (w : Int) (hw : 0 ≤ w ∧ w < 1536) : am_M am_prog (d + 1) m_Gi_tripleBy [.inr (.inr 25), .inl w] (HH L B1 B2 fi ai aj) (fun v h' => v = some (.inl (ai 33 w)) ∧ h' = HH L B1 B2 fi ai aj) := by
  refine am_W.of rfl rfl ?_
  refine am_W.br rfl rfl ⟨trivial, ⟨by omega, by omega⟩⟩ (fun z => absurd z (by omega)) (fun z => ?_)
  refine am_W.br rfl rfl ⟨trivial, ⟨by omega, by omega⟩, ⟨by omega, by omega⟩⟩ (fun z => ?_) (fun z => absurd hw.2 z)
  exact am_W.rt rfl rfl ⟨⟨⟨trivial, okI rfl rfl rfl⟩, okrI rfl rfl (t := 1000) (N := 1536) rfl rfl (by omega) (by omega)⟩, trivial⟩ ⟨rfl, rfl⟩
set_option maxHeartbeats 400000 in
set_option maxRecDepth 100000 in
theorem c_wayOf (d : Nat) (m r o : Int) (h : am_H) : am_M am_prog (d + 1) m_Gi_wayOf [.inl m, .inl r, .inl o] h (fun v h' => v = some (.inl ((m * 16 + r) * 16 + o)) ∧ h' = h) := by
  refine am_W.of rfl rfl ?_
  exact am_W.rt rfl rfl ⟨trivial, trivial⟩ ⟨rfl, rfl⟩
