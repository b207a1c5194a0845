-- names of a row, rows joined
def nmN (D : DT) (x : MT) (r : Int) : Prop := nnP D x.1 r x.2.1 ∧ nnP D x.1 r x.2.2.1 ∧ (x.2.2.2.1.1 ≠ 2 → nnP D x.1 r x.2.2.2.1)
def ptP (x : PT) : Prop := (x.1 = 0 ∨ x.1 = 1 ∨ x.1 = 2) ∧ (x.1 = 0 → x.2.2.length ≤ 30 ∧ ∀ q ∈ x.2.2, okC 4 q) ∧ (x.1 ≠ 0 → 0 ≤ x.2.1 ∧ x.2.1 ≤ 9999)
theorem wfM_p {D : DT} {x : MT} (hI : DI D) (hw : wfM D x) : ptP x.2.1 ∧ ptP x.2.2.1 ∧ ptP x.2.2.2.1 ∧ (0 ≤ x.1 ∧ x.1 ≤ 3) ∧ (x.2.1.1 = 0 ∨ x.2.1.1 = 1) ∧ x.2.2.1.1 = 0 ∧ (x.2.2.2.2.1.1 ≠ -1 → x.2.2.2.1.1 = 2) := by
  obtain ⟨w1, w2, w3, w4, w5, w6⟩ := hw
  have hn := hI.1
  have hco := co_in x.1 hI
  refine ⟨wfP_p (by omega) w2, wfP_p (by omega) w3.1, ?_, by omega, ?_, w3.2, ?_⟩
  · rcases w4 with ⟨h, -⟩ | ⟨h1, -, h3, h4⟩
    · exact wfP_p (by omega) h
    · refine ⟨Or.inr (Or.inr h1), fun q => absurd (q.symm.trans h1) (by decide), fun _ => ⟨h3, ?_⟩⟩
      rcases h4 with h4 | h4
      · omega
      · have := co_in x.2.2.2.2.1.1 hI
        omega
  · rcases w2 with h | h
    · exact Or.inl h.1
    · exact Or.inr h.1
  · intro q
    rcases w4 with ⟨-, h⟩ | ⟨h1, -⟩
    · exact absurd h q
    · exact h1
set_option maxHeartbeats 400000 in
set_option maxRecDepth 100000 in
theorem c_namesWantNull (d L B1 B2 : Nat) (fi : Nat → Nat → Int) (ai aj : Nat → Int → Int) (r : Nat) (x : MT) (row : Int) (hp : MapAt L B1 B2 r) (hx : RepM fi ai r x) (hI : DI (DD fi ai)) (hw : wfM (DD fi ai) x) (hr : am_R row) : am_M am_prog (d + 4) m_Ma_namesWantNull [.inr (.inr r), .inr (.inr 17), .inl row] (HH L B1 B2 fi ai aj) (nQ (¬ nmN (DD fi ai) x row) (HH L B1 B2 fi ai aj)) := by
  obtain ⟨q1, q2, q3, q4, q5, q6, q7⟩ := wfM_p hI hw
  obtain ⟨p0, p1, hC, hf3, hf4, hf5, hpa, hpb, hpc⟩ := id hp
  obtain ⟨r1, r2, r3, r4, -⟩ := hx
  have R : ∀ {y : PT}, ptP y → y.1 ≠ 0 → am_R y.2.1 := fun h z => ⟨by have := h.2.2 z; omega, by have := h.2.2 z; omega⟩
  have g39 : am_gf (HH L B1 B2 fi ai aj) 39 r 0 = .inl x.1 := congrArg Sum.inl r1
  have g40 : am_gf (HH L B1 B2 fi ai aj) 40 r 2 = .inr (.inr (r + 1)) := congrArg (fun z => Sum.inr (Sum.inr z)) hf3
  have g41 : am_gf (HH L B1 B2 fi ai aj) 41 r 2 = .inr (.inr (r + 3)) := congrArg (fun z => Sum.inr (Sum.inr z)) hf4
  have g42 : am_gf (HH L B1 B2 fi ai aj) 42 r 2 = .inr (.inr (r + 5)) := congrArg (fun z => Sum.inr (Sum.inr z)) hf5
  have e42 : am_fr (HH L B1 B2 fi ai aj) 42 r = r + 5 := hf5
  have e40 : am_fr (HH L B1 B2 fi ai aj) 40 r = r + 1 := hf3
  have e41 : am_fr (HH L B1 B2 fi ai aj) 41 r = r + 3 := hf4
  have e39 : am_fi (HH L B1 B2 fi ai aj) 39 r = x.1 := r1
  have e50 : am_fi (HH L B1 B2 fi ai aj) 50 (r + 5) = x.2.2.2.1.1 := r4.1
  have hxR : am_R x.1 := ⟨by omega, by omega⟩
  have hyes : ¬ nmN (DD fi ai) x row → am_W (am_ev am_prog (d + 3)) T_Ma_namesWantNull (nQ (¬ nmN (DD fi ai) x row) (HH L B1 B2 fi ai aj)) (59, [some (.inr (.inr r)), some (.inr (.inr 17)), some (.inl row)], [], HH L B1 B2 fi ai aj) := fun q => am_W.rt rfl rfl ⟨trivial, Or.inr rfl⟩ ⟨Or.inl ⟨q, rfl⟩, rfl⟩
  have hno : nmN (DD fi ai) x row → am_W (am_ev am_prog (d + 3)) T_Ma_namesWantNull (nQ (¬ nmN (DD fi ai) x row) (HH L B1 B2 fi ai aj)) (63, [some (.inr (.inr r)), some (.inr (.inr 17)), some (.inl row)], [], HH L B1 B2 fi ai aj) := fun q => am_W.rt rfl rfl ⟨trivial, Or.inl rfl⟩ ⟨Or.inr ⟨fun z => z q, rfl⟩, rfl⟩
  have okm := HH_ma fi ai aj hp
  refine am_W.of rfl rfl ?_
  refine am_W.cv 9 m_Pa_wantsNull rfl rfl rfl rfl ⟨⟨⟨trivial, okm⟩, okm⟩, by rw [e40]; exact HH_pa fi ai aj hpa⟩ (by rw [e40, g39]; exact c_wantsNull d L B1 B2 fi ai aj (r + 1) x.2.1 x.1 row hpa r2 q1.1 q1.2.1 (R q1) hxR hr hI) ?_
  rintro w1 h1 ⟨hq1, rfl⟩
  rcases hq1 with ⟨n1, rfl⟩ | ⟨n1, rfl⟩
  · exact am_W.br rfl rfl ⟨trivial, ⟨by omega, by omega⟩⟩ (fun c1 => hyes (fun z => n1 z.1)) (fun c1 => absurd c1 (by decide))
  refine am_W.br rfl rfl ⟨trivial, ⟨by omega, by omega⟩⟩ (fun c1 => absurd rfl c1) (fun c1 => ?_)
  have m1 := Classical.byContradiction n1
  refine am_W.cv 9 m_Pa_wantsNull rfl rfl rfl rfl ⟨⟨⟨trivial, okm⟩, okm⟩, by rw [e41]; exact HH_pa fi ai aj hpb⟩ (by rw [e41, g39]; exact c_wantsNull d L B1 B2 fi ai aj (r + 3) x.2.2.1 x.1 row hpb r3 q2.1 q2.2.1 (R q2) hxR hr hI) ?_
  rintro w1 h1 ⟨hq1, rfl⟩
  rcases hq1 with ⟨n2, rfl⟩ | ⟨n2, rfl⟩
  · exact am_W.br rfl rfl ⟨trivial, ⟨by omega, by omega⟩⟩ (fun c1 => hyes (fun z => n2 z.2.1)) (fun c1 => absurd c1 (by decide))
  refine am_W.br rfl rfl ⟨trivial, ⟨by omega, by omega⟩⟩ (fun c1 => absurd rfl c1) (fun c1 => ?_)
  have m2 := Classical.byContradiction n2
  refine am_W.br rfl rfl ⟨⟨⟨trivial, okm⟩, by rw [e42]; exact HH_pa fi ai aj hpc⟩, by rw [e42, e50]; exact ⟨by have := q3.1; omega, by have := q3.1; omega⟩, ⟨by omega, by omega⟩⟩ (fun c2 => ?_) (fun c2 => ?_)
  · rw [e42, e50] at c2
    exact hno ⟨m1, m2, fun z => absurd c2 z⟩
  · rw [e42, e50] at c2
    refine am_W.cv 9 m_Pa_wantsNull rfl rfl rfl rfl ⟨⟨⟨trivial, okm⟩, okm⟩, by rw [e42]; exact HH_pa fi ai aj hpc⟩ (by rw [e42, g39]; exact c_wantsNull d L B1 B2 fi ai aj (r + 5) x.2.2.2.1 x.1 row hpc r4 q3.1 q3.2.1 (R q3) hxR hr hI) ?_
    rintro w1 h1 ⟨hq1, rfl⟩
    rcases hq1 with ⟨n3, rfl⟩ | ⟨n3, rfl⟩
    · exact am_W.br rfl rfl ⟨trivial, ⟨by omega, by omega⟩⟩ (fun c1 => absurd c1 (by decide)) (fun c1 => hyes (fun z => n3 (z.2.2 c2)))
    · exact am_W.br rfl rfl ⟨trivial, ⟨by omega, by omega⟩⟩ (fun c1 => hno ⟨m1, m2, fun _ => Classical.byContradiction n3⟩) (fun c1 => absurd rfl c1)
def jn (D : DT) (x : MT) (r o : Int) : Prop := ce D x.1 r x.2.2.2.2.1.2.1 ≠ -1 ∧ th D x.2.2.2.2.1.1 o = 1 ∧ ce D x.2.2.2.2.1.1 o x.2.2.2.2.1.2.2 = ce D x.1 r x.2.2.2.2.1.2.1
theorem th_01 {D : DT} (hI : DI D) (x y : Int) : th D x y = 0 ∨ th D x y = 1 := by
  have hr := ro_in x hI
  unfold th
  split
  · exact hI.2.2.2.1 _ (by omega) (by omega)
  · exact Or.inl rfl
set_option maxHeartbeats 400000 in
set_option maxRecDepth 100000 in
theorem c_joins (d L B1 B2 : Nat) (fi : Nat → Nat → Int) (ai aj : Nat → Int → Int) (r : Nat) (x : MT) (row o : Int) (hp : MapAt L B1 B2 r) (hx : RepM fi ai r x) (hj : x.2.2.2.2.1.1 ≠ -1) (hI : DI (DD fi ai)) (hw : wfM (DD fi ai) x) (hr : am_R row) (ho : am_R o) : am_M am_prog (d + 4) m_Ma_joins [.inr (.inr r), .inr (.inr 17), .inl row, .inl o] (HH L B1 B2 fi ai aj) (nQ (jn (DD fi ai) x row o) (HH L B1 B2 fi ai aj)) := by
  have hn := hI.1
  obtain ⟨s, P1, P2, P3, J, C, g⟩ := x
  obtain ⟨r1, r2, r3, r4, r5, r6, r7, r8, r9, r10⟩ := hx
  obtain ⟨w1, w2, w3, w4, w5, w6⟩ := hw
  unfold jn
  dsimp only at *
  obtain ⟨r61, r62⟩ := r6 hj
  have hJ : (0 ≤ J.1 ∧ J.1 ≤ 9999) ∧ (0 ≤ J.2.1 ∧ J.2.1 ≤ 9999) ∧ (0 ≤ J.2.2 ∧ J.2.2 ≤ 9999) := by
    rcases w4 with ⟨-, h⟩ | ⟨-, -, -, h4⟩
    · exact absurd h hj
    · rcases h4 with h4 | h4
      · exact absurd h4.1 hj
      · have := co_in J.1 hI
        have := co_in s hI
        omega
  clear w2 w3 w4 w5 w6 r2 r3 r4 r6 r7 r8 r9 r10
  have c1 := ce_in s row J.2.1 hI
  have c2 := ce_in J.1 o J.2.2 hI
  have g39 : am_gf (HH L B1 B2 fi ai aj) 39 r 0 = .inl s := congrArg Sum.inl r1
  have g43 : am_gf (HH L B1 B2 fi ai aj) 43 r 0 = .inl J.1 := congrArg Sum.inl r5
  have g44 : am_gf (HH L B1 B2 fi ai aj) 44 r 0 = .inl J.2.1 := congrArg Sum.inl r61
  have g45 : am_gf (HH L B1 B2 fi ai aj) 45 r 0 = .inl J.2.2 := congrArg Sum.inl r62
  have e39 : am_fi (HH L B1 B2 fi ai aj) 39 r = s := r1
  have e43 : am_fi (HH L B1 B2 fi ai aj) 43 r = J.1 := r5
  have okm := HH_ma fi ai aj hp
  have ok17 : am_ok (HH L B1 B2 fi ai aj) 17 1 := okI rfl rfl rfl
  refine am_W.of rfl rfl ?_
  refine am_W.cv 1 m_So_cell rfl rfl rfl rfl ⟨⟨⟨trivial, okm⟩, okm⟩, ok17⟩ (by rw [g39, g44]; exact c_So_cell (d + 1) L B1 B2 fi ai aj s row J.2.1 ⟨by omega, by omega⟩ hr ⟨by omega, by omega⟩ hI) ?_
  rintro r1 h1 ⟨rfl, rfl⟩
  generalize ce (DD fi ai) s row J.2.1 = key at *
  refine am_W.br rfl rfl ⟨trivial, ⟨by omega, by omega⟩, ⟨by omega, by omega⟩⟩ (fun k1 => ?_) (fun k1 => ?_)
  · exact am_W.rt rfl rfl ⟨trivial, Or.inl rfl⟩ ⟨Or.inr ⟨fun z => z.1 k1, rfl⟩, rfl⟩
  · refine am_W.cv 1 m_So_isThere rfl rfl rfl rfl ⟨⟨trivial, okm⟩, ok17⟩ (by rw [g43]; exact c_So_isThere d L B1 B2 fi ai aj J.1 o ⟨by omega, by omega⟩ ho hI) ?_
    rintro r1 h1 ⟨rfl, rfl⟩
    rcases th_01 hI J.1 o with ht | ht
    · rw [ht]
      refine am_W.br rfl rfl ⟨trivial, ⟨by omega, by omega⟩⟩ (fun k2 => ?_) (fun k2 => absurd rfl k2)
      exact am_W.rt rfl rfl ⟨trivial, Or.inl rfl⟩ ⟨Or.inr ⟨fun z => absurd z.2.1 (by decide), rfl⟩, rfl⟩
    · rw [ht]
      refine am_W.br rfl rfl ⟨trivial, ⟨by omega, by omega⟩⟩ (fun k2 => absurd k2 (by decide)) (fun k2 => ?_)
      refine am_W.cv 1 m_So_cell rfl rfl rfl rfl ⟨⟨⟨trivial, okm⟩, okm⟩, ok17⟩ (by rw [g43, g45]; exact c_So_cell (d + 1) L B1 B2 fi ai aj J.1 o J.2.2 ⟨by omega, by omega⟩ ho ⟨by omega, by omega⟩ hI) ?_
      rintro r1 h1 ⟨rfl, rfl⟩
      refine am_W.br rfl rfl ⟨trivial, ⟨by omega, by omega⟩, ⟨by omega, by omega⟩⟩ (fun k3 => ?_) (fun k3 => ?_)
      · exact am_W.rt rfl rfl ⟨trivial, Or.inl rfl⟩ ⟨Or.inr ⟨fun z => k3 z.2.2, rfl⟩, rfl⟩
      · exact am_W.rt rfl rfl ⟨trivial, Or.inr rfl⟩ ⟨Or.inl ⟨⟨k1, rfl, by omega⟩, rfl⟩, rfl⟩
