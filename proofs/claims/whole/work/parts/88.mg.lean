-- the reference: cells, conditions, sizes
theorem ce_v {D : DT} {s r c : Int} (h1 : 0 ≤ r ∧ r < ro D s) (h2 : 0 ≤ c ∧ c < co D s) : ce D s r c = D.2.2.2.2 ((s * 16 + r) * 4 + c) := if_pos ⟨h1.1, h1.2, h2.1, h2.2⟩
set_option maxHeartbeats 400000 in
set_option maxRecDepth 100000 in
theorem c_mcell (d L B1 B2 : Nat) (fi : Nat → Nat → Int) (ai aj : Nat → Int → Int) (s r c : Int) (hI : DI (DM fi ai)) (h1 : 0 ≤ r ∧ r < ro (DM fi ai) s) (h2 : 0 ≤ c ∧ c < co (DM fi ai) s) : am_M am_prog (d + 1) m_Mo_cell [.inr (.inr 126), .inl s, .inl r, .inl c] (HH L B1 B2 fi ai aj) (fun v h' => v = some (.inl (ce (DM fi ai) s r c)) ∧ h' = HH L B1 B2 fi ai aj) := by
  have hr := ro_in s hI
  have hc := co_in s hI
  have hs := hr.2.2 (by omega)
  refine am_W.of rfl rfl ?_
  refine am_W.rt rfl rfl ⟨⟨⟨trivial, okI rfl rfl rfl⟩, okrI rfl rfl (t := 1000) (N := 256) rfl rfl (by omega) (by omega)⟩, trivial⟩ ⟨?_, rfl⟩
  rw [ce_v h1 h2, show (s * 16 + r) * 4 + c = 4 * (16 * s + r) + c by omega]
  rfl
set_option maxHeartbeats 400000 in
set_option maxRecDepth 100000 in
theorem c_digits (d : Nat) (v : Int) (h : am_H) (hv : 0 ≤ v ∧ v ≤ 9999) : am_M am_prog (d + 1) m_Mo_digits [.inl v] h (fun w h' => w = some (.inl ((dgs v).length : Int)) ∧ h' = h) := by
  refine am_W.of rfl rfl ?_
  rw [dgs_len]
  refine am_W.br rfl rfl ⟨trivial, ⟨by omega, by omega⟩, ⟨by omega, by omega⟩⟩ (fun c1 => ?_) (fun c1 => ?_)
  · refine am_W.br rfl rfl ⟨trivial, ⟨by omega, by omega⟩, ⟨by omega, by omega⟩⟩ (fun c2 => ?_) (fun c2 => ?_)
    · refine am_W.br rfl rfl ⟨trivial, ⟨by omega, by omega⟩, ⟨by omega, by omega⟩⟩ (fun c3 => ?_) (fun c3 => ?_)
      · rw [if_pos (by omega)]
        exact am_W.rt rfl rfl ⟨trivial, trivial⟩ ⟨rfl, rfl⟩
      · rw [if_neg (by omega), if_pos (by omega)]
        exact am_W.rt rfl rfl ⟨trivial, trivial⟩ ⟨rfl, rfl⟩
    · rw [if_neg (by omega), if_neg (by omega), if_pos (by omega)]
      exact am_W.rt rfl rfl ⟨trivial, trivial⟩ ⟨rfl, rfl⟩
  · rw [if_neg (by omega), if_neg (by omega), if_neg (by omega)]
    exact am_W.rt rfl rfl ⟨trivial, trivial⟩ ⟨rfl, rfl⟩
theorem ok6 {L B1 B2 : Nat} (fi : Nat → Nat → Int) (ai aj : Nat → Int → Int) {r : Nat} {i : Int} (e : Nat.ble 16 r = true) (e1 : Nat.blt r 170 = true) (e2 : CC L r = (1000, 6)) (h : 0 ≤ i ∧ i < 6) : am_okr (HH L B1 B2 fi ai aj) r 1000 i := okrI e e1 e2 rfl h.1 (by omega)
theorem ok18 {L B1 B2 : Nat} (fi : Nat → Nat → Int) (ai aj : Nat → Int → Int) {r : Nat} {i : Int} (e : Nat.ble 16 r = true) (e1 : Nat.blt r 170 = true) (e2 : CC L r = (1000, 18)) (h : 0 ≤ i ∧ i < 18) : am_okr (HH L B1 B2 fi ai aj) r 1000 i := okrI e e1 e2 rfl h.1 (by omega)
set_option maxHeartbeats 400000 in
set_option maxRecDepth 100000 in
theorem c_mholds (d L B1 B2 : Nat) (fi : Nat → Nat → Int) (ai aj : Nat → Int → Int) (m row : Int) (x : MT) (hm : 0 ≤ m ∧ m < 6) (hx : RefB ai m x) (hI : DI (DM fi ai)) (hw : wfM (DM fi ai) x) (hr : 0 ≤ row ∧ row < ro (DM fi ai) x.1) : am_M am_prog (d + 2) m_Mo_holds [.inr (.inr 126), .inl m, .inl row] (HH L B1 B2 fi ai aj) (nQ (hld (DM fi ai) x row) (HH L B1 B2 fi ai aj)) := by
  have hn := hI.1
  have hro := ro_in x.1 hI
  have hco := co_in x.1 hI
  have hsr := hro.2.2 (by omega)
  obtain ⟨s, P1, P2, P3, J, C, g⟩ := x
  obtain ⟨r1, r2, r3, r4, r5, r6, r7, r8, r9, r10⟩ := hx
  obtain ⟨w1, w2, w3, w4, w5, w6⟩ := hw
  unfold hld
  dsimp only at *
  clear w2 w3 w4 w6 r2 r3 r4 r5 r6 r10
  have hc := ce_in s row C.2.1 hI
  have ok126 : am_ok (HH L B1 B2 fi ai aj) 126 10 := okI rfl rfl rfl
  have oS : am_okr (HH L B1 B2 fi ai aj) (am_fr (HH L B1 B2 fi ai aj) 62 126) 1000 m := ok6 fi ai aj rfl rfl rfl hm
  have o1 : am_okr (HH L B1 B2 fi ai aj) (am_fr (HH L B1 B2 fi ai aj) 71 126) 1000 m := ok6 fi ai aj rfl rfl rfl hm
  have o2 : am_okr (HH L B1 B2 fi ai aj) (am_fr (HH L B1 B2 fi ai aj) 72 126) 1000 m := ok6 fi ai aj rfl rfl rfl hm
  have o3 : am_okr (HH L B1 B2 fi ai aj) (am_fr (HH L B1 B2 fi ai aj) 73 126) 1000 m := ok6 fi ai aj rfl rfl rfl hm
  have eS : am_ai (HH L B1 B2 fi ai aj) (am_fr (HH L B1 B2 fi ai aj) 62 126) m = s := r1
  have e1 : am_ai (HH L B1 B2 fi ai aj) (am_fr (HH L B1 B2 fi ai aj) 71 126) m = sg C.1 := r7
  refine am_W.of rfl rfl ?_
  by_cases hnn : C.1 = -1
  · have es : sg C.1 = 0 := if_pos hnn
    refine am_W.br rfl rfl ⟨⟨⟨trivial, ok126⟩, o1⟩, by rw [e1, es]; exact ⟨by omega, by omega⟩⟩ (fun c => absurd (e1.trans es) c) (fun c => ?_)
    exact am_W.rt rfl rfl ⟨trivial, Or.inr rfl⟩ ⟨Or.inl ⟨Or.inl hnn, rfl⟩, rfl⟩
  · obtain ⟨v1, v2, v3, v4, v5⟩ := w5.resolve_left hnn
    have e2 : am_ai (HH L B1 B2 fi ai aj) (am_fr (HH L B1 B2 fi ai aj) 72 126) m = C.2.1 := r8 hnn
    have es : (C.1 = 1853189228 ∧ sg C.1 = 1) ∨ (¬ C.1 = 1853189228 ∧ sg C.1 = C.1 ∧ 60 ≤ C.1 ∧ C.1 ≤ 62) := by
      unfold sg
      rw [if_neg hnn]
      by_cases hz : C.1 = 1853189228
      · rw [if_pos hz]
        exact Or.inl ⟨hz, rfl⟩
      · rw [if_neg hz]
        exact Or.inr ⟨hz, rfl, by omega, by omega⟩
    generalize hsg : sg C.1 = sC at *
    have hsR : am_R sC := by constructor <;> omega
    refine am_W.br rfl rfl ⟨⟨⟨trivial, ok126⟩, o1⟩, by rw [e1]; exact hsR⟩ (fun c => ?_) (fun c => absurd (by rw [e1]; omega) c)
    refine am_W.cv 10 m_Mo_cell rfl rfl rfl rfl ⟨⟨⟨⟨⟨trivial, ok126⟩, oS⟩, ok126⟩, o2⟩, ok126⟩ (by rw [eS, e2]; exact c_mcell d L B1 B2 fi ai aj s row C.2.1 hI hr ⟨by omega, by omega⟩) ?_
    rintro r1 h1 ⟨rfl, rfl⟩
    generalize ce (DM fi ai) s row C.2.1 = c at *
    refine am_W.br rfl rfl ⟨⟨⟨trivial, ok126⟩, o1⟩, by rw [e1]; exact hsR, ⟨by omega, by omega⟩⟩ (fun c2 => ?_) (fun c2 => ?_)
    · rw [e1] at c2
      have hC1 : ¬ C.1 = 1853189228 ∧ sC = C.1 ∧ 60 ≤ C.1 ∧ C.1 ≤ 62 := es.resolve_left (fun z => c2 z.2)
      have e3 : am_ai (HH L B1 B2 fi ai aj) (am_fr (HH L B1 B2 fi ai aj) 73 126) m = C.2.2 := r9 hnn hC1.1
      have hno : ¬ (C.1 = -1 ∨ (C.1 = 1853189228 ∧ c = -1) ∨ (C.1 = 61 ∧ c ≠ -1 ∧ c = C.2.2) ∨ (C.1 = 60 ∧ c ≠ -1 ∧ c < C.2.2) ∨ (C.1 = 62 ∧ c ≠ -1 ∧ C.2.2 < c)) → am_W (am_ev am_prog (d + 1)) T_Mo_holds (nQ (C.1 = -1 ∨ (C.1 = 1853189228 ∧ c = -1) ∨ (C.1 = 61 ∧ c ≠ -1 ∧ c = C.2.2) ∨ (C.1 = 60 ∧ c ≠ -1 ∧ c < C.2.2) ∨ (C.1 = 62 ∧ c ≠ -1 ∧ C.2.2 < c)) (HH L B1 B2 fi ai aj)) (117, [some (.inr (.inr 126)), some (.inl m), some (.inl row), some (.inl c)], [], HH L B1 B2 fi ai aj) := fun q => am_W.rt rfl rfl ⟨trivial, Or.inl rfl⟩ ⟨Or.inr ⟨q, rfl⟩, rfl⟩
      have hyes : (C.1 = -1 ∨ (C.1 = 1853189228 ∧ c = -1) ∨ (C.1 = 61 ∧ c ≠ -1 ∧ c = C.2.2) ∨ (C.1 = 60 ∧ c ≠ -1 ∧ c < C.2.2) ∨ (C.1 = 62 ∧ c ≠ -1 ∧ C.2.2 < c)) → am_W (am_ev am_prog (d + 1)) T_Mo_holds (nQ (C.1 = -1 ∨ (C.1 = 1853189228 ∧ c = -1) ∨ (C.1 = 61 ∧ c ≠ -1 ∧ c = C.2.2) ∨ (C.1 = 60 ∧ c ≠ -1 ∧ c < C.2.2) ∨ (C.1 = 62 ∧ c ≠ -1 ∧ C.2.2 < c)) (HH L B1 B2 fi ai aj)) (113, [some (.inr (.inr 126)), some (.inl m), some (.inl row), some (.inl c)], [], HH L B1 B2 fi ai aj) := fun q => am_W.rt rfl rfl ⟨trivial, Or.inr rfl⟩ ⟨Or.inl ⟨q, rfl⟩, rfl⟩
      refine am_W.br rfl rfl ⟨trivial, ⟨by omega, by omega⟩, ⟨by omega, by omega⟩⟩ (fun c3 => hno (by omega)) (fun c3 => ?_)
      refine am_W.br rfl rfl ⟨⟨⟨trivial, ok126⟩, o1⟩, by rw [e1]; exact hsR, ⟨by omega, by omega⟩⟩ (fun c4 => ?_) (fun c4 => ?_)
      · rw [e1] at c4
        refine am_W.br rfl rfl ⟨⟨⟨trivial, ok126⟩, o1⟩, by rw [e1]; exact hsR, ⟨by omega, by omega⟩⟩ (fun c5 => ?_) (fun c5 => ?_)
        · rw [e1] at c5
          refine am_W.br rfl rfl ⟨⟨⟨trivial, ok126⟩, o3⟩, ⟨by omega, by omega⟩, by rw [e3]; exact ⟨by omega, by omega⟩⟩ (fun c6 => hno (by rw [e3] at c6; omega)) (fun c6 => hyes (by rw [e3] at c6; omega))
        · rw [e1] at c5
          refine am_W.br rfl rfl ⟨⟨⟨trivial, ok126⟩, o3⟩, ⟨by omega, by omega⟩, by rw [e3]; exact ⟨by omega, by omega⟩⟩ (fun c6 => hno (by rw [e3] at c6; omega)) (fun c6 => ?_)
          exact am_W.gp 113 rfl trivial (hyes (by rw [e3] at c6; omega))
      · rw [e1] at c4
        refine am_W.br rfl rfl ⟨⟨⟨trivial, ok126⟩, o3⟩, ⟨by omega, by omega⟩, by rw [e3]; exact ⟨by omega, by omega⟩⟩ (fun c6 => hno (by rw [e3] at c6; omega)) (fun c6 => ?_)
        exact am_W.gp 113 rfl trivial (hyes (by rw [e3] at c6; omega))
    · rw [e1] at c2
      have hC1 := es.resolve_right (fun z => by omega)
      refine am_W.br rfl rfl ⟨trivial, ⟨by omega, by omega⟩, ⟨by omega, by omega⟩⟩ (fun c3 => ?_) (fun c3 => ?_)
      · exact am_W.rt rfl rfl ⟨trivial, Or.inl rfl⟩ ⟨Or.inr ⟨by omega, rfl⟩, rfl⟩
      · exact am_W.rt rfl rfl ⟨trivial, Or.inr rfl⟩ ⟨Or.inl ⟨by omega, rfl⟩, rfl⟩
