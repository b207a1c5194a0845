-- the class's questions
def cSt (D : DT) (ms : List MT) (f : Nat → Nat → Int) (a j : Nat → Int → Int) : Prop := (f 31 25 = 0 ∧ GVw D ms f a j) ∨ f 31 25 = 1
set_option maxHeartbeats 400000 in
set_option maxRecDepth 100000 in
theorem c_make2 (d L B1 B2 : Nat) (fi : Nat → Nat → Int) (ai aj : Nat → Int → Int) (B : Nat) (hB : B = 38 ∨ B = 82) (hI : DI (DD fi ai)) (ms : List MT) (h6 : ms.length ≤ 6) (hr : RepL fi ai B ms) (hw : ∀ x ∈ ms, wfM (DD fi ai) x) (hst : cSt (DD fi ai) ms fi ai aj) : am_M am_prog (d + 7) m_Gi_make [.inr (.inr 25), .inr (.inr B), .inr (.inr 17)] (HH L B1 B2 fi ai aj) (fun v h' => v = none ∧ ∃ f' a' j', h' = HH L B1 B2 f' a' j' ∧ FK fi f' ai a' aj j' ∧ f' 31 25 = 0 ∧ GVw (DD fi ai) ms f' a' j') := by
  rcases hst with ⟨h0, hG⟩ | h1
  · refine am_W.of rfl rfl ?_
    have e31 : am_fi (HH L B1 B2 fi ai aj) 31 25 = 0 := h0
    refine am_W.br rfl rfl ⟨⟨trivial, okI rfl rfl rfl⟩, by rw [e31]; exact ⟨by omega, by omega⟩⟩ (fun c => absurd e31 c) (fun c => ?_)
    exact am_W.rt rfl rfl ⟨trivial, trivial⟩ ⟨rfl, fi, ai, aj, rfl, FK.rf, h0, hG⟩
  · refine (c_make d L B1 B2 fi ai aj B hB hI ms h6 hr hw (Or.inr h1)).mono ?_
    rintro v h' ⟨rfl, f', a', j', rfl, g1, g2, g3⟩
    exact ⟨rfl, f', a', j', rfl, g1, g2, GVw_of hI h6 g3⟩
def CE (L B1 B2 : Nat) (fi : Nat → Nat → Int) (ai aj : Nat → Int → Int) (D : DT) (ms : List MT) (h' : am_H) : Prop := ∃ f' a' j', h' = HH L B1 B2 f' a' j' ∧ FK fi f' ai a' aj j' ∧ cSt D ms f' a' j'
theorem GQ_of {D : DT} (hI : DI D) {ms : List MT} (h6 : ms.length ≤ 6) (hw : ∀ x ∈ ms, wfM D x) {f : Nat → Nat → Int} {a j : Nat → Int → Int} {P : List Int} (hP : Lst (cD D ms) (aW D ms 0) P) (h : GVw D ms f a j) : GQ P f a j (TMf D ms) ∧ (∀ i : Nat, i < P.length → a 32 ((i : Int) + 1) - a 32 (i : Int) = cnt (cD D ms) (aW D ms 0) (gD P i) ∧ a 29 (gD P i / 256) = gF ms (gD P i)) ∧ (ms ≠ [] → ∀ w, 0 ≤ w → w < 1536 → (¬ w ∈ aW D ms 0 → a 33 w = -1) ∧ (w ∈ aW D ms 0 → ∃ i : Nat, i < P.length ∧ a 33 w = (i : Int) ∧ cD D ms (gD P i) w = 0)) := by
  obtain ⟨h1, h2, h3, h4, P', p1, p2, p3, p4⟩ := h
  have e : P' = P := Lst_u (cD_ord D ms) p1 hP
  subst e
  have hPl := Lst_len (cD_ord D ms) hP
  have hlen := (aW_in hI ms 0).1
  have hm : ∀ i : Nat, i < P'.length → gD P' i ∈ aW D ms 0 := fun i hi => ((hP.2.1 _).mp (gD_m hi)).1
  refine ⟨⟨by omega, p2, fun i hi => ?_⟩, fun i hi => ?_, p4⟩
  · obtain ⟨q1, q2, q3⟩ := p3 i hi
    exact ⟨q1, q2, (h4 _ (hm i hi)).1, fun t t0 t3 => ⟨TMf_ok hI hw (hm i hi) ⟨t0, t3⟩, fun k k0 k3 => h3 _ (hm i hi) t k t0 t3 k0 k3⟩⟩
  · exact ⟨(p3 i hi).2.2, (h4 _ (hm i hi)).2⟩
set_option maxHeartbeats 400000 in
set_option maxRecDepth 100000 in
theorem c_MT_triples (d L B1 B2 : Nat) (fi : Nat → Nat → Int) (ai aj : Nat → Int → Int) (ms : List MT) (P : List Int) (hB : B1 = 38 ∨ B1 = 82) (hI : DI (DD fi ai)) (h6 : ms.length ≤ 6) (hr : RepL fi ai B1 ms) (hw : ∀ x ∈ ms, wfM (DD fi ai) x) (hst : cSt (DD fi ai) ms fi ai aj) (hP : Lst (cD (DD fi ai) ms) (aW (DD fi ai) ms 0) P) : am_M am_prog (d + 8) m_MT_triples [.inr (.inr 16)] (HH L B1 B2 fi ai aj) (fun v h' => v = some (.inl (P.length : Int)) ∧ CE L B1 B2 fi ai aj (DD fi ai) ms h') := by
  have ok16 : ∀ f a j, am_ok (HH L B1 B2 f a j) 16 0 := fun f a j => okI rfl rfl rfl
  have ok25 : ∀ f a j, am_ok (HH L B1 B2 f a j) 25 4 := fun f a j => okI rfl rfl rfl
  refine am_W.of rfl rfl ?_
  refine am_W.cv 4 m_Gi_make rfl rfl rfl rfl (by repeat' first | exact ok16 _ _ _ | exact ok25 _ _ _ | trivial | refine And.intro ?_ ?_) (c_make2 d L B1 B2 fi ai aj B1 hB hI ms h6 hr hw hst) ?_
  rintro w1 h1 ⟨rfl, f', a', j', rfl, g1, g2, g3⟩
  have hQ := (GQ_of hI h6 hw hP g3).1
  have e27 : am_fi (HH L B1 B2 f' a' j') 27 25 = (P.length : Int) := hQ.2.1
  refine am_W.rt rfl rfl (by repeat' first | exact ok16 _ _ _ | exact ok25 _ _ _ | trivial | refine And.intro ?_ ?_) ⟨?_, f', a', j', rfl, g1, Or.inl ⟨g2, g3⟩⟩
  exact congrArg (fun z => some (Sum.inl z)) e27
set_option maxHeartbeats 400000 in
set_option maxRecDepth 100000 in
theorem c_MT_bads (d L B1 B2 : Nat) (fi : Nat → Nat → Int) (ai aj : Nat → Int → Int) (ms : List MT) (hB : B1 = 38 ∨ B1 = 82) (hI : DI (DD fi ai)) (h6 : ms.length ≤ 6) (hr : RepL fi ai B1 ms) (hw : ∀ x ∈ ms, wfM (DD fi ai) x) (hst : cSt (DD fi ai) ms fi ai aj) : am_M am_prog (d + 8) m_MT_bads [.inr (.inr 16)] (HH L B1 B2 fi ai aj) (fun v h' => v = some (.inl ((aB (DD fi ai) ms 0).length : Int)) ∧ CE L B1 B2 fi ai aj (DD fi ai) ms h') := by
  have ok16 : ∀ f a j, am_ok (HH L B1 B2 f a j) 16 0 := fun f a j => okI rfl rfl rfl
  have ok25 : ∀ f a j, am_ok (HH L B1 B2 f a j) 25 4 := fun f a j => okI rfl rfl rfl
  refine am_W.of rfl rfl ?_
  refine am_W.cv 4 m_Gi_make rfl rfl rfl rfl (by repeat' first | exact ok16 _ _ _ | exact ok25 _ _ _ | trivial | refine And.intro ?_ ?_) (c_make2 d L B1 B2 fi ai aj B1 hB hI ms h6 hr hw hst) ?_
  rintro w1 h1 ⟨rfl, f', a', j', rfl, g1, g2, g3⟩
  have e30 : am_fi (HH L B1 B2 f' a' j') 30 25 = ((aB (DD fi ai) ms 0).length : Int) := g3.1
  refine am_W.rt rfl rfl (by repeat' first | exact ok16 _ _ _ | exact ok25 _ _ _ | trivial | refine And.intro ?_ ?_) ⟨?_, f', a', j', rfl, g1, Or.inl ⟨g2, g3⟩⟩
  exact congrArg (fun z => some (Sum.inl z)) e30
set_option maxHeartbeats 400000 in
set_option maxRecDepth 100000 in
theorem c_MT_triple (d L B1 B2 : Nat) (fi : Nat → Nat → Int) (ai aj : Nat → Int → Int) (ms : List MT) (P : List Int) (i q : Int) (hi : am_R i) (hq : am_R q) (hB : B1 = 38 ∨ B1 = 82) (hI : DI (DD fi ai)) (h6 : ms.length ≤ 6) (hr : RepL fi ai B1 ms) (hw : ∀ x ∈ ms, wfM (DD fi ai) x) (hst : cSt (DD fi ai) ms fi ai aj) (hP : Lst (cD (DD fi ai) ms) (aW (DD fi ai) ms 0) P) : am_M am_prog (d + 8) m_MT_triple [.inr (.inr 16), .inl i, .inl q] (HH L B1 B2 fi ai aj) (fun v h' => v = some (.inl (trS (cD (DD fi ai) ms) (TMf (DD fi ai) ms) (gF ms) P (aW (DD fi ai) ms 0) i q)) ∧ CE L B1 B2 fi ai aj (DD fi ai) ms h') := by
  have ok16 : ∀ f a j, am_ok (HH L B1 B2 f a j) 16 0 := fun f a j => okI rfl rfl rfl
  have ok25 : ∀ f a j, am_ok (HH L B1 B2 f a j) 25 4 := fun f a j => okI rfl rfl rfl
  refine am_W.of rfl rfl ?_
  unfold trS
  by_cases h1 : 0 ≤ q ∧ q ≤ 9
  · rw [if_neg (fun z => z h1)]
    refine am_W.br rfl rfl ⟨trivial, hq⟩ (fun z => absurd z (by omega)) (fun z => ?_)
    refine am_W.br rfl rfl ⟨trivial, hq, ⟨by omega, by omega⟩⟩ (fun z => ?_) (fun z => absurd h1.2 z)
    refine am_W.cv 4 m_Gi_make rfl rfl rfl rfl (by repeat' first | exact ok16 _ _ _ | exact ok25 _ _ _ | trivial | refine And.intro ?_ ?_) (c_make2 d L B1 B2 fi ai aj B1 hB hI ms h6 hr hw hst) ?_
    rintro w1 h1' ⟨rfl, f', a', j', rfl, g1, g2, g3⟩
    obtain ⟨hQ, hQ2, -⟩ := GQ_of hI h6 hw hP g3
    have hl := hQ.1
    refine am_W.cv 4 m_Gi_hasTriple rfl rfl rfl rfl (by repeat' first | exact ok16 _ _ _ | exact ok25 _ _ _ | trivial | refine And.intro ?_ ?_) (c_hasTriple (d + 6) L B1 B2 f' a' j' i (P.length : Int) hi hQ.2.1 ⟨by omega, by omega⟩) ?_
    rintro r1 h1 ⟨rfl, rfl⟩
    by_cases h2 : 0 ≤ i ∧ i < (P.length : Int)
    · rw [if_pos h2, if_neg (fun z => z h2)]
      refine am_W.br rfl rfl ⟨trivial, ⟨by omega, by omega⟩⟩ (fun z => ?_) (fun z => absurd (by decide) z)
      have q2 := hQ2 i.toNat (by omega)
      rw [show ((i.toNat : Nat) : Int) = i by omega] at q2
      by_cases h3 : q < 3
      · rw [if_pos h3]
        refine am_W.br rfl rfl ⟨trivial, hq, ⟨by omega, by omega⟩⟩ (fun z => absurd z (by omega)) (fun z => ?_)
        refine am_W.cv 4 m_Gi_kindOf rfl rfl rfl rfl (by repeat' first | exact ok16 _ _ _ | exact ok25 _ _ _ | trivial | refine And.intro ?_ ?_) (c_kindOf (d + 4) L B1 B2 f' a' j' P (TMf (DD fi ai) ms) i q hQ h2 ⟨h1.1, h3⟩) ?_
        rintro r1 h1 ⟨rfl, rfl⟩
        exact am_W.rt rfl rfl ⟨trivial, trivial⟩ ⟨rfl, f', a', j', rfl, g1, Or.inl ⟨g2, g3⟩⟩
      · rw [if_neg h3]
        refine am_W.br rfl rfl ⟨trivial, hq, ⟨by omega, by omega⟩⟩ (fun z => ?_) (fun z => absurd (by omega) z)
        by_cases h4 : q < 6
        · rw [if_pos h4]
          refine am_W.br rfl rfl ⟨trivial, hq, ⟨by omega, by omega⟩⟩ (fun z => absurd z (by omega)) (fun z => ?_)
          refine am_W.cv 4 m_Gi_lengthOf rfl rfl rfl rfl (by repeat' first | exact ok16 _ _ _ | exact ok25 _ _ _ | trivial | refine And.intro ?_ ?_) (c_lengthOf (d + 3) L B1 B2 f' a' j' P (TMf (DD fi ai) ms) i (q - 3) hQ h2 ⟨by omega, by omega⟩) ?_
          rintro r1 h1 ⟨rfl, rfl⟩
          exact am_W.rt rfl rfl ⟨trivial, trivial⟩ ⟨rfl, f', a', j', rfl, g1, Or.inl ⟨g2, g3⟩⟩
        · rw [if_neg h4]
          refine am_W.br rfl rfl ⟨trivial, hq, ⟨by omega, by omega⟩⟩ (fun z => ?_) (fun z => absurd (by omega) z)
          refine am_W.sw rfl rfl ⟨trivial, hq⟩ (fun k tg hm hx => ?_) (fun hn => ?_)
          · simp only [List.mem_cons, Prod.mk.injEq, List.not_mem_nil, or_false] at hm
            rcases hm with ⟨rfl, rfl⟩ | ⟨rfl, rfl⟩ | ⟨rfl, rfl⟩
            · rw [if_pos (by omega)]
              refine am_W.cv 4 m_Gi_graphOf rfl rfl rfl rfl (by repeat' first | exact ok16 _ _ _ | exact ok25 _ _ _ | trivial | refine And.intro ?_ ?_) (c_graphOf (d + 4) L B1 B2 f' a' j' P (TMf (DD fi ai) ms) i hQ h2) ?_
              rintro r1 h1 ⟨rfl, rfl⟩
              refine am_W.rt rfl rfl ⟨trivial, trivial⟩ ⟨?_, f', a', j', rfl, g1, Or.inl ⟨g2, g3⟩⟩
              rw [q2.2]
            · rw [if_neg (by omega), if_pos (by omega)]
              refine am_W.cv 4 m_Gi_waysOf rfl rfl rfl rfl (by repeat' first | exact ok16 _ _ _ | exact ok25 _ _ _ | trivial | refine And.intro ?_ ?_) (c_waysOf (d + 5) L B1 B2 f' a' j' P (TMf (DD fi ai) ms) i hQ h2) ?_
              rintro r1 h1 ⟨rfl, rfl⟩
              refine am_W.rt rfl rfl ⟨trivial, trivial⟩ ⟨?_, f', a', j', rfl, g1, Or.inl ⟨g2, g3⟩⟩
              rw [q2.1]
            · rw [if_neg (by omega), if_neg (by omega), if_pos (by omega)]
              refine am_W.cv 4 m_Gi_leastMapping rfl rfl rfl rfl (by repeat' first | exact ok16 _ _ _ | exact ok25 _ _ _ | trivial | refine And.intro ?_ ?_) (c_leastMapping (d + 4) L B1 B2 f' a' j' P (TMf (DD fi ai) ms) i hQ h2) ?_
              rintro r1 h1 ⟨rfl, rfl⟩
              exact am_W.rt rfl rfl ⟨trivial, trivial⟩ ⟨rfl, f', a', j', rfl, g1, Or.inl ⟨g2, g3⟩⟩
          · have n6 : q ≠ 6 := hn (6, 100) (by simp)
            have n7 : q ≠ 7 := hn (7, 109) (by simp)
            have n8 : q ≠ 8 := hn (8, 118) (by simp)
            rw [if_neg n6, if_neg n7, if_neg n8]
            refine am_W.cv 4 m_Gi_leastRow rfl rfl rfl rfl (by repeat' first | exact ok16 _ _ _ | exact ok25 _ _ _ | trivial | refine And.intro ?_ ?_) (c_leastRow (d + 4) L B1 B2 f' a' j' P (TMf (DD fi ai) ms) i hQ h2) ?_
            rintro r1 h1 ⟨rfl, rfl⟩
            exact am_W.rt rfl rfl ⟨trivial, trivial⟩ ⟨rfl, f', a', j', rfl, g1, Or.inl ⟨g2, g3⟩⟩
    · rw [if_neg h2, if_pos h2]
      refine am_W.br rfl rfl ⟨trivial, ⟨by omega, by omega⟩⟩ (fun z => absurd rfl z) (fun z => ?_)
      exact am_W.rt rfl rfl ⟨trivial, trivial⟩ ⟨rfl, f', a', j', rfl, g1, Or.inl ⟨g2, g3⟩⟩
  · rw [if_pos h1]
    by_cases h0 : q < 0
    · refine am_W.br rfl rfl ⟨trivial, hq⟩ (fun z => ?_) (fun z => absurd h0 z)
      exact am_W.rt rfl rfl ⟨trivial, trivial⟩ ⟨rfl, fi, ai, aj, rfl, FK.rf, hst⟩
    · refine am_W.br rfl rfl ⟨trivial, hq⟩ (fun z => absurd z h0) (fun z => ?_)
      refine am_W.br rfl rfl ⟨trivial, hq, ⟨by omega, by omega⟩⟩ (fun z => absurd z (by omega)) (fun z => ?_)
      exact am_W.rt rfl rfl ⟨trivial, trivial⟩ ⟨rfl, fi, ai, aj, rfl, FK.rf, hst⟩
set_option maxHeartbeats 400000 in
set_option maxRecDepth 100000 in
theorem c_MT_byteOf (d L B1 B2 : Nat) (fi : Nat → Nat → Int) (ai aj : Nat → Int → Int) (ms : List MT) (P : List Int) (i t k : Int) (hi : am_R i) (ht : am_R t) (hk : am_R k) (hB : B1 = 38 ∨ B1 = 82) (hI : DI (DD fi ai)) (h6 : ms.length ≤ 6) (hr : RepL fi ai B1 ms) (hw : ∀ x ∈ ms, wfM (DD fi ai) x) (hst : cSt (DD fi ai) ms fi ai aj) (hP : Lst (cD (DD fi ai) ms) (aW (DD fi ai) ms 0) P) : am_M am_prog (d + 8) m_MT_byteOf [.inr (.inr 16), .inl i, .inl t, .inl k] (HH L B1 B2 fi ai aj) (fun v h' => v = some (.inl (byS (TMf (DD fi ai) ms) P i t k)) ∧ CE L B1 B2 fi ai aj (DD fi ai) ms h') := by
  have ok16 : ∀ f a j, am_ok (HH L B1 B2 f a j) 16 0 := fun f a j => okI rfl rfl rfl
  have ok25 : ∀ f a j, am_ok (HH L B1 B2 f a j) 25 4 := fun f a j => okI rfl rfl rfl
  refine am_W.of rfl rfl ?_
  refine am_W.cv 4 m_Gi_make rfl rfl rfl rfl (by repeat' first | exact ok16 _ _ _ | exact ok25 _ _ _ | trivial | refine And.intro ?_ ?_) (c_make2 d L B1 B2 fi ai aj B1 hB hI ms h6 hr hw hst) ?_
  rintro w1 h1' ⟨rfl, f', a', j', rfl, g1, g2, g3⟩
  obtain ⟨hQ, -, -⟩ := GQ_of hI h6 hw hP g3
  have hl := hQ.1
  have hno : ¬ ((0 ≤ i ∧ i < (P.length : Int)) ∧ (0 ≤ t ∧ t ≤ 2) ∧ (0 ≤ k ∧ k < ((TMf (DD fi ai) ms (gD P i.toNat) t).2.length : Int))) → am_W (am_ev am_prog (d + 7)) T_MT_byteOf (fun v h' => v = some (.inl (byS (TMf (DD fi ai) ms) P i t k)) ∧ CE L B1 B2 fi ai aj (DD fi ai) ms h') (52, [some (.inr (.inr 16)), some (.inl i), some (.inl t), some (.inl k)], [], HH L B1 B2 f' a' j') := by
    intro h
    unfold byS
    rw [if_neg h]
    exact am_W.rt rfl rfl ⟨trivial, trivial⟩ ⟨rfl, f', a', j', rfl, g1, Or.inl ⟨g2, g3⟩⟩
  refine am_W.cv 4 m_Gi_hasTriple rfl rfl rfl rfl (by repeat' first | exact ok16 _ _ _ | exact ok25 _ _ _ | trivial | refine And.intro ?_ ?_) (c_hasTriple (d + 6) L B1 B2 f' a' j' i (P.length : Int) hi hQ.2.1 ⟨by omega, by omega⟩) ?_
  rintro r1 h1 ⟨rfl, rfl⟩
  by_cases h2 : 0 ≤ i ∧ i < (P.length : Int)
  · rw [if_pos h2]
    refine am_W.br rfl rfl ⟨trivial, ⟨by omega, by omega⟩⟩ (fun z => absurd z (by decide)) (fun z => ?_)
    by_cases h3 : t < 0
    · exact am_W.br rfl rfl ⟨trivial, ht⟩ (fun z => hno (fun q => by omega)) (fun z => absurd h3 z)
    · refine am_W.br rfl rfl ⟨trivial, ht⟩ (fun z => absurd z h3) (fun z => ?_)
      by_cases h4 : 3 ≤ t
      · exact am_W.br rfl rfl ⟨trivial, ht, ⟨by omega, by omega⟩⟩ (fun z => hno (fun q => by omega)) (fun z => absurd h4 z)
      · refine am_W.br rfl rfl ⟨trivial, ht, ⟨by omega, by omega⟩⟩ (fun z => absurd z h4) (fun z => ?_)
        by_cases h5 : k < 0
        · exact am_W.br rfl rfl ⟨trivial, hk⟩ (fun z => hno (fun q => by omega)) (fun z => absurd h5 z)
        · refine am_W.br rfl rfl ⟨trivial, hk⟩ (fun z => absurd z h5) (fun z => ?_)
          have h20 := ((hQ.2.2 i.toNat (by omega)).2.2.2 t (by omega) (by omega)).1.2.2.2.2
          refine am_W.cv 4 m_Gi_lengthOf rfl rfl rfl rfl (by repeat' first | exact ok16 _ _ _ | exact ok25 _ _ _ | trivial | refine And.intro ?_ ?_) (c_lengthOf (d + 3) L B1 B2 f' a' j' P (TMf (DD fi ai) ms) i t hQ h2 ⟨by omega, by omega⟩) ?_
          rintro r1 h1 ⟨rfl, rfl⟩
          by_cases h6 : k < ((TMf (DD fi ai) ms (gD P i.toNat) t).2.length : Int)
          · refine am_W.br rfl rfl ⟨trivial, hk, ⟨by omega, by omega⟩⟩ (fun z => ?_) (fun z => absurd h6 z)
            refine am_W.cv 4 m_Gi_termByte rfl rfl rfl rfl (by repeat' first | exact ok16 _ _ _ | exact ok25 _ _ _ | trivial | refine And.intro ?_ ?_) (c_termByte (d + 4) L B1 B2 f' a' j' P (TMf (DD fi ai) ms) i t k hQ h2 ⟨by omega, by omega⟩ ⟨by omega, by omega⟩) ?_
            rintro r1 h1 ⟨rfl, rfl⟩
            unfold byS
            rw [if_pos ⟨h2, ⟨by omega, by omega⟩, ⟨by omega, h6⟩⟩]
            exact am_W.rt rfl rfl ⟨trivial, trivial⟩ ⟨rfl, f', a', j', rfl, g1, Or.inl ⟨g2, g3⟩⟩
          · exact am_W.br rfl rfl ⟨trivial, hk, ⟨by omega, by omega⟩⟩ (fun z => absurd z h6) (fun z => hno (fun q => h6 q.2.2.2))
  · rw [if_neg h2]
    exact am_W.br rfl rfl ⟨trivial, ⟨by omega, by omega⟩⟩ (fun z => hno (fun q => h2 q.1)) (fun z => absurd rfl z)
theorem mB_m {D : DT} {x : MT} {i : Int} : ∀ (k : Nat) (r : Int) (p : Int × Int), p ∈ mB D x i k r → i * 16 + r ≤ p.1 ∧ p.1 < i * 16 + r + k
  | 0, _, _, h => by cases h
  | k + 1, r, p, h => by
    rw [mB_c] at h
    rcases List.mem_append.mp h with q | q
    · unfold mB1 at q
      split at q
      · cases q
      · rw [List.mem_singleton.mp q]
        exact ⟨by omega, by dsimp only; omega⟩
    · have := mB_m k (r + 1) p q
      omega
theorem aB_m {D : DT} (hI : DI D) : ∀ (ms : List MT) (i : Int) (p : Int × Int), p ∈ aB D ms i → i * 16 ≤ p.1 ∧ p.1 < (i + ms.length) * 16
  | [], _, _, h => by cases h
  | x :: w, i, p, h => by
    have hro := ro_in x.1 hI
    rw [List.length_cons]
    rcases List.mem_append.mp h with q | q
    · have := mB_m _ _ p q
      omega
    · have := aB_m hI w (i + 1) p q
      omega
set_option maxHeartbeats 400000 in
set_option maxRecDepth 100000 in
theorem c_MT_bad (d L B1 B2 : Nat) (fi : Nat → Nat → Int) (ai aj : Nat → Int → Int) (ms : List MT) (i q : Int) (hi : am_R i) (hq : am_R q) (hB : B1 = 38 ∨ B1 = 82) (hI : DI (DD fi ai)) (h6 : ms.length ≤ 6) (hr : RepL fi ai B1 ms) (hw : ∀ x ∈ ms, wfM (DD fi ai) x) (hst : cSt (DD fi ai) ms fi ai aj) : am_M am_prog (d + 8) m_MT_bad [.inr (.inr 16), .inl i, .inl q] (HH L B1 B2 fi ai aj) (fun v h' => v = some (.inl (bdS (aB (DD fi ai) ms 0) i q)) ∧ CE L B1 B2 fi ai aj (DD fi ai) ms h') := by
  have ok16 : ∀ f a j, am_ok (HH L B1 B2 f a j) 16 0 := fun f a j => okI rfl rfl rfl
  have ok25 : ∀ f a j, am_ok (HH L B1 B2 f a j) 25 4 := fun f a j => okI rfl rfl rfl
  refine am_W.of rfl rfl ?_
  unfold bdS
  by_cases h1 : 0 ≤ q ∧ q ≤ 2
  · rw [if_neg (fun z => z h1)]
    refine am_W.br rfl rfl ⟨trivial, hq⟩ (fun z => absurd z (by omega)) (fun z => ?_)
    refine am_W.br rfl rfl ⟨trivial, hq, ⟨by omega, by omega⟩⟩ (fun z => ?_) (fun z => absurd h1.2 z)
    refine am_W.cv 4 m_Gi_make rfl rfl rfl rfl (by repeat' first | exact ok16 _ _ _ | exact ok25 _ _ _ | trivial | refine And.intro ?_ ?_) (c_make2 d L B1 B2 fi ai aj B1 hB hI ms h6 hr hw hst) ?_
    rintro w1 h1' ⟨rfl, f', a', j', rfl, g1, g2, g3⟩
    have hend : CE L B1 B2 fi ai aj (DD fi ai) ms (HH L B1 B2 f' a' j') := ⟨f', a', j', rfl, g1, Or.inl ⟨g2, g3⟩⟩
    have e30 : am_fi (HH L B1 B2 f' a' j') 30 25 = ((aB (DD fi ai) ms 0).length : Int) := g3.1
    have hB2 := (aW_in hI ms 0).2.1
    have hbs := g3.2.1
    have hBm := aB_m hI ms 0
    generalize aB (DD fi ai) ms 0 = l at hB2 e30 hbs hBm
    unfold bdL
    by_cases h2 : 0 ≤ i ∧ i < (l.length : Int)
    · rw [if_pos h2]
      refine am_W.br rfl rfl ⟨trivial, hi⟩ (fun z => absurd z (by omega)) (fun z => ?_)
      refine am_W.br rfl rfl ⟨⟨⟨trivial, ok16 _ _ _⟩, ok25 _ _ _⟩, hi, by show am_R (am_fi (HH L B1 B2 f' a' j') 30 25); rw [e30]; exact ⟨by omega, by omega⟩⟩ (fun z => ?_) (fun z => absurd (by show i < am_fi (HH L B1 B2 f' a' j') 30 25; rw [e30]; exact h2.2) z)
      obtain ⟨p, hp⟩ : ∃ p, l[i.toNat]? = some p := ⟨_, List.getElem?_eq_getElem (by omega)⟩
      have hpd : l.getD i.toNat (0, 0) = p := by
        rw [List.getD_eq_getElem?_getD, hp]
        rfl
      have hpa := hbs i.toNat p hp
      rw [show ((i.toNat : Nat) : Int) = i by omega] at hpa
      rw [hpd]
      unfold pkB
      have o34 : am_okr (HH L B1 B2 f' a' j') (am_fr (HH L B1 B2 f' a' j') 28 (am_fr (HH L B1 B2 f' a' j') 2 16)) 1000 i := okrI rfl rfl (t := 1000) (N := 96) rfl rfl (by omega) (by omega)
      have o35 : am_okr (HH L B1 B2 f' a' j') (am_fr (HH L B1 B2 f' a' j') 29 (am_fr (HH L B1 B2 f' a' j') 2 16)) 1000 i := okrI rfl rfl (t := 1000) (N := 96) rfl rfl (by omega) (by omega)
      have e34 : am_ai (HH L B1 B2 f' a' j') (am_fr (HH L B1 B2 f' a' j') 28 (am_fr (HH L B1 B2 f' a' j') 2 16)) i = p.1 := hpa.1
      have e35 : am_ai (HH L B1 B2 f' a' j') (am_fr (HH L B1 B2 f' a' j') 29 (am_fr (HH L B1 B2 f' a' j') 2 16)) i = p.2 := hpa.2
      have hp1 := hBm p (List.mem_of_getElem? hp)
      have r16 : am_R p.1 ∧ am_R 16 ∧ (16 : Int) ≠ 0 := ⟨⟨by omega, by omega⟩, ⟨by omega, by omega⟩, by omega⟩
      by_cases h3 : q = 2
      · rw [if_neg (by omega), if_neg (by omega)]
        refine am_W.br rfl rfl ⟨trivial, hq, ⟨by omega, by omega⟩⟩ (fun z => absurd h3 z) (fun z => ?_)
        refine am_W.rt rfl rfl ⟨⟨⟨⟨trivial, ok16 _ _ _⟩, ok25 _ _ _⟩, o35⟩, trivial⟩ ⟨?_, hend⟩
        exact congrArg (fun z => some (Sum.inl z)) e35
      · refine am_W.br rfl rfl ⟨trivial, hq, ⟨by omega, by omega⟩⟩ (fun z => ?_) (fun z => absurd h3 z)
        by_cases h4 : q = 0
        · rw [if_pos h4]
          refine am_W.br rfl rfl ⟨trivial, hq⟩ (fun z => absurd h4 z) (fun z => ?_)
          refine am_W.rt rfl rfl ⟨⟨⟨⟨⟨trivial, ok16 _ _ _⟩, ok25 _ _ _⟩, o34⟩, by rw [e34]; exact r16⟩, trivial⟩ ⟨?_, hend⟩
          rw [e34, Int.tdiv_eq_ediv_of_nonneg (by omega)]
        · rw [if_neg h4, if_pos (by omega)]
          refine am_W.br rfl rfl ⟨trivial, hq⟩ (fun z => ?_) (fun z => absurd h4 z)
          refine am_W.rt rfl rfl ⟨⟨⟨⟨⟨trivial, ok16 _ _ _⟩, ok25 _ _ _⟩, o34⟩, by rw [e34]; exact r16⟩, trivial⟩ ⟨?_, hend⟩
          rw [e34, Int.tmod_eq_emod_of_nonneg (by omega)]
    · rw [if_neg h2]
      by_cases h0 : i < 0
      · refine am_W.br rfl rfl ⟨trivial, hi⟩ (fun z => ?_) (fun z => absurd h0 z)
        exact am_W.rt rfl rfl ⟨trivial, trivial⟩ ⟨rfl, hend⟩
      · refine am_W.br rfl rfl ⟨trivial, hi⟩ (fun z => absurd z h0) (fun z => ?_)
        refine am_W.br rfl rfl ⟨⟨⟨trivial, ok16 _ _ _⟩, ok25 _ _ _⟩, hi, by show am_R (am_fi (HH L B1 B2 f' a' j') 30 25); rw [e30]; exact ⟨by omega, by omega⟩⟩ (fun z => absurd z (by show ¬ i < am_fi (HH L B1 B2 f' a' j') 30 25; rw [e30]; omega)) (fun z => ?_)
        exact am_W.rt rfl rfl ⟨trivial, trivial⟩ ⟨rfl, hend⟩
  · rw [if_pos h1]
    by_cases h0 : q < 0
    · refine am_W.br rfl rfl ⟨trivial, hq⟩ (fun z => ?_) (fun z => absurd h0 z)
      exact am_W.rt rfl rfl ⟨trivial, trivial⟩ ⟨rfl, fi, ai, aj, rfl, FK.rf, hst⟩
    · refine am_W.br rfl rfl ⟨trivial, hq⟩ (fun z => absurd z h0) (fun z => ?_)
      refine am_W.br rfl rfl ⟨trivial, hq, ⟨by omega, by omega⟩⟩ (fun z => absurd z (by omega)) (fun z => ?_)
      exact am_W.rt rfl rfl ⟨trivial, trivial⟩ ⟨rfl, fi, ai, aj, rfl, FK.rf, hst⟩
