-- the reference's questions: isRow, triples, triple, byteOf, which
def trS (c : Int → Int → Int) (TM : Int → Int → Int × List Int) (gr : Int → Int) (P l : List Int) (i q : Int) : Int := if ¬ (0 ≤ q ∧ q ≤ 9) then -1 else if ¬ (0 ≤ i ∧ i < (P.length : Int)) then -3 else if q < 3 then (TM (gD P i.toNat) q).1 else if q < 6 then ((TM (gD P i.toNat) (q - 3)).2.length : Int) else if q = 6 then gr (gD P i.toNat) else if q = 7 then cnt c l (gD P i.toNat) else if q = 8 then gD P i.toNat / 256 else gD P i.toNat / 16 % 16
def byS (TM : Int → Int → Int × List Int) (P : List Int) (i t k : Int) : Int := if (0 ≤ i ∧ i < (P.length : Int)) ∧ (0 ≤ t ∧ t ≤ 2) ∧ (0 ≤ k ∧ k < ((TM (gD P i.toNat) t).2.length : Int)) then (TM (gD P i.toNat) t).2.getD k.toNat 0 else -1
theorem if01 {p : Prop} [Decidable p] : (if p then (1 : Int) else 0) = 0 ∨ (if p then (1 : Int) else 0) = 1 := by
  split
  · exact Or.inr rfl
  · exact Or.inl rfl
set_option maxHeartbeats 400000 in
set_option maxRecDepth 100000 in
theorem c_isRow (d L B1 B2 : Nat) (fi : Nat → Nat → Int) (ai aj : Nat → Int → Int) (s r : Int) (hs : am_R s) (hr : am_R r) (hI : DI (DM fi ai)) : am_M am_prog (d + 2) m_Mo_isRow [.inr (.inr 126), .inl s, .inl r] (HH L B1 B2 fi ai aj) (fun v h' => v = some (.inl (if 0 ≤ r ∧ r < ro (DM fi ai) s then 1 else 0)) ∧ h' = HH L B1 B2 fi ai aj) := by
  have hn := hI.1
  have ok126 : am_ok (HH L B1 B2 fi ai aj) 126 10 := okI rfl rfl rfl
  have e54 : am_fi (HH L B1 B2 fi ai aj) 54 126 = fi 54 126 := rfl
  have hn2 : 0 ≤ fi 54 126 ∧ fi 54 126 ≤ 4 := hn
  refine am_W.of rfl rfl ?_
  refine am_W.cs rfl rfl rfl ⟨trivial, ok126⟩ (c_Mo_in d s 0 (fi 54 126 - 1) _ hs ⟨by omega, by omega⟩ ⟨by omega, by omega⟩) ?_
  rintro r1 h1 ⟨rfl, rfl⟩
  by_cases h1 : 0 ≤ s ∧ s ≤ fi 54 126 - 1
  · rw [if_pos h1]
    have hv : 0 ≤ s ∧ s < (DM fi ai).1 := ⟨h1.1, by show s < fi 54 126; omega⟩
    have hro := ro_in s hI
    have oR : am_okr (HH L B1 B2 fi ai aj) (am_fr (HH L B1 B2 fi ai aj) 56 126) 1000 s := okrI rfl rfl (t := 1000) (N := 4) rfl rfl (by omega) (by omega)
    have eR : am_ai (HH L B1 B2 fi ai aj) (am_fr (HH L B1 B2 fi ai aj) 56 126) s = ro (DM fi ai) s := by
      rw [ro_v hv]
      rfl
    refine am_W.br rfl rfl ⟨trivial, ⟨by omega, by omega⟩⟩ (fun z => absurd z (by decide)) (fun z => ?_)
    refine am_W.cs rfl rfl rfl ⟨⟨trivial, ok126⟩, oR⟩ (by rw [eR]; exact c_Mo_in d r 0 (ro (DM fi ai) s - 1) _ hr ⟨by omega, by omega⟩ ⟨by omega, by omega⟩) ?_
    rintro r1 h1 ⟨rfl, rfl⟩
    by_cases h2 : 0 ≤ r ∧ r < ro (DM fi ai) s
    · rw [if_pos h2, if_pos (by omega)]
      refine am_W.br rfl rfl ⟨trivial, ⟨by omega, by omega⟩⟩ (fun z => absurd z (by decide)) (fun z => ?_)
      exact am_W.rt rfl rfl ⟨trivial, Or.inr rfl⟩ ⟨rfl, rfl⟩
    · rw [if_neg h2, if_neg (by omega)]
      refine am_W.br rfl rfl ⟨trivial, ⟨by omega, by omega⟩⟩ (fun z => ?_) (fun z => absurd rfl z)
      exact am_W.rt rfl rfl ⟨trivial, Or.inl rfl⟩ ⟨rfl, rfl⟩
  · rw [if_neg h1]
    have e0 : ro (DM fi ai) s = 0 := if_pos (by show s < 0 ∨ fi 54 126 ≤ s; omega)
    rw [e0, if_neg (by omega)]
    refine am_W.br rfl rfl ⟨trivial, ⟨by omega, by omega⟩⟩ (fun z => ?_) (fun z => absurd rfl z)
    exact am_W.rt rfl rfl ⟨trivial, Or.inl rfl⟩ ⟨rfl, rfl⟩
set_option maxHeartbeats 400000 in
set_option maxRecDepth 100000 in
theorem c_Mo_triples (d L B1 B2 : Nat) (fi : Nat → Nat → Int) (ai aj : Nat → Int → Int) : am_M am_prog (d + 1) m_Mo_triples [.inr (.inr 126)] (HH L B1 B2 fi ai aj) (fun v h' => v = some (.inl (fi 94 126)) ∧ h' = HH L B1 B2 fi ai aj) := by
  refine am_W.of rfl rfl ?_
  exact am_W.rt rfl rfl ⟨⟨trivial, okI rfl rfl rfl⟩, trivial⟩ ⟨rfl, rfl⟩
set_option maxHeartbeats 400000 in
set_option maxRecDepth 100000 in
theorem c_Mo_triple (d L B1 B2 : Nat) (fi : Nat → Nat → Int) (ai aj : Nat → Int → Int) (c : Int → Int → Int) (TM : Int → Int → Int × List Int) (gr : Int → Int) (P l : List Int) (i q : Int) (hi : am_R i) (hq : am_R q) (hG : fi 94 126 = (P.length : Int)) (hl : P.length ≤ 1536) (hS : GS c TM gr ai P l) : am_M am_prog (d + 2) m_Mo_triple [.inr (.inr 126), .inl i, .inl q] (HH L B1 B2 fi ai aj) (fun v h' => v = some (.inl (trS c TM gr P l i q)) ∧ h' = HH L B1 B2 fi ai aj) := by
  have ok126 : am_ok (HH L B1 B2 fi ai aj) 126 10 := okI rfl rfl rfl
  have eG : am_fi (HH L B1 B2 fi ai aj) 94 126 = (P.length : Int) := hG
  refine am_W.of rfl rfl ?_
  unfold trS
  refine am_W.cs rfl rfl rfl trivial (c_Mo_in d q 0 9 _ hq ⟨by omega, by omega⟩ ⟨by omega, by omega⟩) ?_
  rintro r1 h1 ⟨rfl, rfl⟩
  by_cases h1 : 0 ≤ q ∧ q ≤ 9
  · rw [if_pos h1, if_neg (fun z => z h1)]
    refine am_W.br rfl rfl ⟨trivial, ⟨by omega, by omega⟩⟩ (fun z => ?_) (fun z => absurd (by decide) z)
    by_cases h2 : 0 ≤ i ∧ i < (P.length : Int)
    · rw [if_neg (fun z => z h2)]
      refine am_W.br rfl rfl ⟨trivial, hi⟩ (fun z => absurd z (by omega)) (fun z => ?_)
      refine am_W.br rfl rfl ⟨⟨trivial, ok126⟩, hi, by rw [eG]; exact ⟨by omega, by omega⟩⟩ (fun z => ?_) (fun z => absurd (by rw [eG]; omega) z)
      obtain ⟨q1, q2, q3, q4, q5⟩ := hS.2.1 i.toNat (by omega)
      rw [show ((i.toNat : Nat) : Int) = i by omega] at q1 q2 q3 q4 q5
      generalize gD P i.toNat = p at q1 q2 q3 q4 q5 ⊢
      have oO : am_okr (HH L B1 B2 fi ai aj) (am_fr (HH L B1 B2 fi ai aj) 102 126) 1000 i := okrI rfl rfl (t := 1000) (N := 1600) rfl rfl (by omega) (by omega)
      refine am_W.gp 34 rfl ⟨⟨trivial, ok126⟩, oO⟩ ?_
      have eO : am_ai (HH L B1 B2 fi ai aj) (am_fr (HH L B1 B2 fi ai aj) 102 126) i = ai 163 i := rfl
      rw [eO]
      generalize ai 163 i = s at q1 q2 q3 q4 q5 ⊢
      by_cases h3 : q < 3
      · rw [if_pos h3]
        refine am_W.br rfl rfl ⟨trivial, hq, ⟨by omega, by omega⟩⟩ (fun z => absurd z (by omega)) (fun z => ?_)
        refine am_W.rt rfl rfl ⟨⟨⟨trivial, ok126⟩, okrI rfl rfl (t := 1000) (N := 4800) rfl rfl (by omega) (by omega)⟩, trivial⟩ ⟨?_, rfl⟩
        exact congrArg (fun z => some (Sum.inl z)) (slR_A q2 q h1.1 h3).1
      · rw [if_neg h3]
        refine am_W.br rfl rfl ⟨trivial, hq, ⟨by omega, by omega⟩⟩ (fun z => ?_) (fun z => absurd (by omega) z)
        by_cases h4 : q < 6
        · rw [if_pos h4]
          refine am_W.br rfl rfl ⟨trivial, hq, ⟨by omega, by omega⟩⟩ (fun z => absurd z (by omega)) (fun z => ?_)
          refine am_W.rt rfl rfl ⟨⟨⟨trivial, ok126⟩, okrI rfl rfl (t := 1000) (N := 4800) rfl rfl (by omega) (by omega)⟩, trivial⟩ ⟨?_, rfl⟩
          have := (slR_A q2 (q - 3) (by omega) (by omega)).2.1
          rw [show 3 * s + (q - 3) = 3 * s + q - 3 by omega] at this
          exact congrArg (fun z => some (Sum.inl z)) this
        · rw [if_neg h4]
          refine am_W.br rfl rfl ⟨trivial, hq, ⟨by omega, by omega⟩⟩ (fun z => ?_) (fun z => absurd (by omega) z)
          by_cases h5 : q = 6
          · rw [if_pos h5]
            refine am_W.br rfl rfl ⟨trivial, hq, ⟨by omega, by omega⟩⟩ (fun z => absurd h5 z) (fun z => ?_)
            refine am_W.rt rfl rfl ⟨⟨⟨trivial, ok126⟩, okrI rfl rfl (t := 1000) (N := 1600) rfl rfl (by omega) (by omega)⟩, trivial⟩ ⟨?_, rfl⟩
            exact congrArg (fun z => some (Sum.inl z)) q2.2.2.2
          · rw [if_neg h5]
            refine am_W.br rfl rfl ⟨trivial, hq, ⟨by omega, by omega⟩⟩ (fun z => ?_) (fun z => absurd h5 z)
            by_cases h6 : q = 7
            · rw [if_pos h6]
              refine am_W.br rfl rfl ⟨trivial, hq, ⟨by omega, by omega⟩⟩ (fun z => absurd h6 z) (fun z => ?_)
              refine am_W.rt rfl rfl ⟨⟨⟨trivial, ok126⟩, okrI rfl rfl (t := 1000) (N := 1600) rfl rfl (by omega) (by omega)⟩, trivial⟩ ⟨?_, rfl⟩
              exact congrArg (fun z => some (Sum.inl z)) q3
            · rw [if_neg h6]
              refine am_W.br rfl rfl ⟨trivial, hq, ⟨by omega, by omega⟩⟩ (fun z => ?_) (fun z => absurd h6 z)
              by_cases h7 : q = 8
              · rw [if_pos h7]
                refine am_W.br rfl rfl ⟨trivial, hq, ⟨by omega, by omega⟩⟩ (fun z => absurd h7 z) (fun z => ?_)
                refine am_W.rt rfl rfl ⟨⟨⟨trivial, ok126⟩, okrI rfl rfl (t := 1000) (N := 1600) rfl rfl (by omega) (by omega)⟩, trivial⟩ ⟨?_, rfl⟩
                exact congrArg (fun z => some (Sum.inl z)) q4
              · rw [if_neg h7]
                refine am_W.br rfl rfl ⟨trivial, hq, ⟨by omega, by omega⟩⟩ (fun z => ?_) (fun z => absurd h7 z)
                refine am_W.rt rfl rfl ⟨⟨⟨trivial, ok126⟩, okrI rfl rfl (t := 1000) (N := 1600) rfl rfl (by omega) (by omega)⟩, trivial⟩ ⟨?_, rfl⟩
                exact congrArg (fun z => some (Sum.inl z)) q5
    · rw [if_pos h2]
      by_cases h0 : i < 0
      · refine am_W.br rfl rfl ⟨trivial, hi⟩ (fun z => ?_) (fun z => absurd h0 z)
        exact am_W.rt rfl rfl ⟨trivial, trivial⟩ ⟨rfl, rfl⟩
      · refine am_W.br rfl rfl ⟨trivial, hi⟩ (fun z => absurd z h0) (fun z => ?_)
        refine am_W.br rfl rfl ⟨⟨trivial, ok126⟩, hi, by rw [eG]; exact ⟨by omega, by omega⟩⟩ (fun z => absurd z (by rw [eG]; omega)) (fun z => ?_)
        exact am_W.rt rfl rfl ⟨trivial, trivial⟩ ⟨rfl, rfl⟩
  · rw [if_neg h1, if_pos h1]
    refine am_W.br rfl rfl ⟨trivial, ⟨by omega, by omega⟩⟩ (fun z => absurd rfl z) (fun z => ?_)
    exact am_W.rt rfl rfl ⟨trivial, trivial⟩ ⟨rfl, rfl⟩
set_option maxHeartbeats 400000 in
set_option maxRecDepth 100000 in
theorem c_Mo_byteOf (d L B1 B2 : Nat) (fi : Nat → Nat → Int) (ai aj : Nat → Int → Int) (c : Int → Int → Int) (TM : Int → Int → Int × List Int) (gr : Int → Int) (P l : List Int) (i t k : Int) (hi : am_R i) (ht : am_R t) (hk : am_R k) (hG : fi 94 126 = (P.length : Int)) (hl : P.length ≤ 1536) (hS : GS c TM gr ai P l) (hT : ∀ p ∈ P, ∀ t, 0 ≤ t → t < 3 → (TM p t).2.length ≤ 20) : am_M am_prog (d + 2) m_Mo_byteOf [.inr (.inr 126), .inl i, .inl t, .inl k] (HH L B1 B2 fi ai aj) (fun v h' => v = some (.inl (byS TM P i t k)) ∧ h' = HH L B1 B2 fi ai aj) := by
  have ok126 : am_ok (HH L B1 B2 fi ai aj) 126 10 := okI rfl rfl rfl
  have hno : ¬ ((0 ≤ i ∧ i < (P.length : Int)) ∧ (0 ≤ t ∧ t ≤ 2) ∧ (0 ≤ k ∧ k < ((TM (gD P i.toNat) t).2.length : Int))) → am_W (am_ev am_prog (d + 1)) T_Mo_byteOf (fun v h' => v = some (.inl (byS TM P i t k)) ∧ h' = HH L B1 B2 fi ai aj) (48, [some (.inr (.inr 126)), some (.inl i), some (.inl t), some (.inl k)], [], HH L B1 B2 fi ai aj) := by
    intro h
    unfold byS
    rw [if_neg h]
    exact am_W.rt rfl rfl ⟨trivial, trivial⟩ ⟨rfl, rfl⟩
  refine am_W.of rfl rfl ?_
  have eG : am_fi (HH L B1 B2 fi ai aj) 94 126 = (P.length : Int) := hG
  refine am_W.cs rfl rfl rfl ⟨trivial, ok126⟩ (by rw [eG]; exact c_Mo_in d i 0 ((P.length : Int) - 1) _ hi ⟨by omega, by omega⟩ ⟨by omega, by omega⟩) ?_
  rintro r1 h1 ⟨rfl, rfl⟩
  by_cases h1 : 0 ≤ i ∧ i < (P.length : Int)
  · rw [if_pos (by omega)]
    refine am_W.br rfl rfl ⟨trivial, ⟨by omega, by omega⟩⟩ (fun z => absurd z (by decide)) (fun z => ?_)
    refine am_W.cs rfl rfl rfl trivial (c_Mo_in d t 0 2 _ ht ⟨by omega, by omega⟩ ⟨by omega, by omega⟩) ?_
    rintro r1 h1 ⟨rfl, rfl⟩
    by_cases h2 : 0 ≤ t ∧ t ≤ 2
    · rw [if_pos h2]
      refine am_W.br rfl rfl ⟨trivial, ⟨by omega, by omega⟩⟩ (fun z => absurd z (by decide)) (fun z => ?_)
      obtain ⟨q1, q2, -⟩ := hS.2.1 i.toNat (by omega)
      rw [show ((i.toNat : Nat) : Int) = i by omega] at q1 q2
      have hlen := hT _ (gD_m (P := P) (i := i.toNat) (by omega)) t h2.1 (by omega)
      have sA := slR_A q2 t h2.1 (by omega)
      have oO : am_okr (HH L B1 B2 fi ai aj) (am_fr (HH L B1 B2 fi ai aj) 102 126) 1000 i := okrI rfl rfl (t := 1000) (N := 1600) rfl rfl (by omega) (by omega)
      have eO : am_ai (HH L B1 B2 fi ai aj) (am_fr (HH L B1 B2 fi ai aj) 102 126) i = ai 163 i := rfl
      have oZ : am_okr (HH L B1 B2 fi ai aj) (am_fr (HH L B1 B2 fi ai aj) 96 126) 1000 (3 * ai 163 i + t) := okrI rfl rfl (t := 1000) (N := 4800) rfl rfl (by omega) (by omega)
      have eZ : am_ai (HH L B1 B2 fi ai aj) (am_fr (HH L B1 B2 fi ai aj) 96 126) (3 * ai 163 i + t) = ((TM (gD P i.toNat) t).2.length : Int) := sA.2.1
      refine am_W.cs rfl rfl rfl ⟨⟨⟨⟨trivial, ok126⟩, ok126⟩, oO⟩, by rw [eO]; exact oZ⟩ (by rw [eO, eZ]; exact c_Mo_in d k 0 (((TM (gD P i.toNat) t).2.length : Int) - 1) _ hk ⟨by omega, by omega⟩ ⟨by omega, by omega⟩) ?_
      rintro r1 h1 ⟨rfl, rfl⟩
      by_cases h3 : 0 ≤ k ∧ k < ((TM (gD P i.toNat) t).2.length : Int)
      · rw [if_pos (by omega)]
        refine am_W.br rfl rfl ⟨trivial, ⟨by omega, by omega⟩⟩ (fun z => ?_) (fun z => absurd (by decide) z)
        have oB : am_okr (HH L B1 B2 fi ai aj) (am_fr (HH L B1 B2 fi ai aj) 95 126) 1003 (60 * ai 163 i + 20 * t + k) := okrI rfl rfl (t := 1003) (N := 96000) rfl rfl (by omega) (by omega)
        refine am_W.rt rfl rfl ⟨⟨⟨⟨⟨trivial, ok126⟩, ok126⟩, oO⟩, by rw [eO]; exact oB⟩, trivial⟩ ⟨?_, rfl⟩
        unfold byS
        rw [if_pos ⟨h1, h2, h3⟩]
        have := sA.2.2 k.toNat (by omega)
        rw [show ((k.toNat : Nat) : Int) = k by omega] at this
        exact congrArg (fun z => some (Sum.inl z)) this
      · rw [if_neg (by omega)]
        exact am_W.br rfl rfl ⟨trivial, ⟨by omega, by omega⟩⟩ (fun z => absurd rfl z) (fun z => hno (fun q => h3 q.2.2))
    · rw [if_neg h2]
      exact am_W.br rfl rfl ⟨trivial, ⟨by omega, by omega⟩⟩ (fun z => hno (fun q => h2 q.2.1)) (fun z => absurd rfl z)
  · rw [if_neg (by omega)]
    exact am_W.br rfl rfl ⟨trivial, ⟨by omega, by omega⟩⟩ (fun z => hno (fun q => h1 q.1)) (fun z => absurd rfl z)
