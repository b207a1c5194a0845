-- the reference: bad names
theorem wfM_q {D : DT} {x : MT} (hI : DI D) (hw : wfM D x) : prt D x.1 x.2.1 ∧ prt D x.1 x.2.2.1 ∧ (¬ x.2.2.2.1.1 = 2 → prt D x.1 x.2.2.2.1) ∧ (x.2.2.2.2.1.1 = -1 → prt D x.1 x.2.2.2.1) ∧ (x.2.2.2.1.1 = 0 ∨ x.2.2.2.1.1 = 1 ∨ x.2.2.2.1.1 = 2) := by
  obtain ⟨w1, w2, w3, w4, w5, w6⟩ := hw
  have hP : ∀ {y : PT}, wfP (co D x.1) y → prt D x.1 y := by
    intro y h
    rcases h with ⟨h1, h2, h3⟩ | ⟨h1, h2, h3⟩
    · exact ⟨Or.inl h1, fun _ => ⟨h2, h3⟩, fun q => absurd h1 q⟩
    · exact ⟨Or.inr (Or.inl h1), fun q => absurd (q.symm.trans h1) (by decide), fun _ => ⟨h2, h3⟩⟩
  refine ⟨hP w2, hP w3.1, fun hk => ?_, fun hj => ?_, ?_⟩
  · rcases w4 with ⟨h, -⟩ | ⟨h1, -⟩
    · exact hP h
    · exact absurd h1 hk
  · rcases w4 with ⟨h, -⟩ | ⟨h1, -, h3, h4⟩
    · exact hP h
    · refine ⟨Or.inr (Or.inr h1), fun q => absurd (q.symm.trans h1) (by decide), fun _ => ?_⟩
      rcases h4 with h4 | h4
      · exact ⟨h3, h4.2⟩
      · exact absurd hj (by omega)
  · rcases w4 with ⟨h, -⟩ | ⟨h1, -⟩
    · rcases h with h | h
      · exact Or.inl h.1
      · exact Or.inr (Or.inl h.1)
    · exact Or.inr (Or.inr h1)
noncomputable def bnR (D : DT) (x : MT) (r : Int) : Int := @ite _ (gvs D x r) (Classical.propDecidable _) (bdN D x r) (-1)
theorem tb1 {D : DT} {s r : Int} {y : PT} (hI : DI D) (hs : 0 ≤ s) (h1 : y.1 = 1) (hn : nnP D s r y) : ¬ badT y.1 (tbP D s r y) := by
  have := (tbP_b (D := D) (s := s) (r := r) (x := y) hI hs (fun q => absurd (q.symm.trans h1) (by decide)) hn).2.2 (by omega)
  omega
/-- one name of the three -/
def bst (b n : Int) (y : PT) (l : List Int) : Int := if b = -1 ∧ y.1 = 0 ∧ ¬ (1 ≤ l.length ∧ l.length ≤ 20) then n else b
theorem bst3 {y1 y2 y3 : PT} (l1 l2 l3 : List Int) (k1 : y1.1 = 0 ∨ y1.1 = 1) (k2 : y2.1 = 0) (k3 : y3.1 = 0 ∨ y3.1 = 1 ∨ y3.1 = 2) (t1 : y1.1 = 1 → ¬ badT y1.1 l1) (t3 : y3.1 = 1 → ¬ badT y3.1 l3) : bst (bst (bst (-1) 0 y1 l1) 1 y2 l2) 2 y3 l3 = if badT y1.1 l1 then 0 else if badT y2.1 l2 then 1 else if badT y3.1 l3 then 2 else -1 := by
  have b0 : ∀ (y : PT) (l : List Int), y.1 = 0 → (badT y.1 l ↔ ¬ (1 ≤ l.length ∧ l.length ≤ 20)) := by
    intro y l h
    unfold badT
    omega
  have b2 : ∀ (y : PT) (l : List Int), y.1 = 2 → ¬ badT y.1 l := by
    intro y l h
    unfold badT
    omega
  have e : ∀ (b n : Int) (y : PT) (l : List Int), (y.1 = 0 ∨ ¬ badT y.1 l) → bst b n y l = if b = -1 ∧ badT y.1 l then n else b := by
    intro b n y l h
    unfold bst
    by_cases h0 : y.1 = 0
    · have := b0 y l h0
      by_cases hb : b = -1 ∧ badT y.1 l
      · rw [if_pos hb, if_pos ⟨hb.1, h0, this.mp hb.2⟩]
      · rw [if_neg hb, if_neg (fun z => hb ⟨z.1, this.mpr z.2.2⟩)]
    · have h1 : ¬ badT y.1 l := by
        rcases h with h | h
        · exact absurd h h0
        · exact h
      rw [if_neg (fun z => h0 z.2.1), if_neg (fun z => h1 z.2)]
  rw [e _ _ y1 l1 (by rcases k1 with h | h; exact Or.inl h; exact Or.inr (t1 h)), e _ _ y2 l2 (Or.inl k2), e _ _ y3 l3 (by rcases k3 with h | h | h; exact Or.inl h; exact Or.inr (t3 h); exact Or.inr (b2 _ _ h))]
  by_cases c1 : badT y1.1 l1
  · rw [if_pos c1, if_pos (c := (-1 : Int) = -1 ∧ badT y1.1 l1) ⟨rfl, c1⟩, if_neg (c := (0 : Int) = -1 ∧ badT y2.1 l2) (fun z => absurd z.1 (by decide)), if_neg (fun z => absurd z.1 (by decide))]
  · rw [if_neg c1, if_neg (c := (-1 : Int) = -1 ∧ badT y1.1 l1) (fun z => c1 z.2)]
    by_cases c2 : badT y2.1 l2
    · rw [if_pos c2, if_pos (c := (-1 : Int) = -1 ∧ badT y2.1 l2) ⟨rfl, c2⟩, if_neg (fun z => absurd z.1 (by decide))]
    · rw [if_neg c2, if_neg (c := (-1 : Int) = -1 ∧ badT y2.1 l2) (fun z => c2 z.2)]
      by_cases c3 : badT y3.1 l3
      · rw [if_pos c3, if_pos ⟨rfl, c3⟩]
      · rw [if_neg c3, if_neg (fun z => c3 z.2)]
set_option maxHeartbeats 400000 in
set_option maxRecDepth 100000 in
theorem l_badName (d L B1 B2 : Nat) (fi : Nat → Nat → Int) (ai aj : Nat → Int → Int) (m n row b : Int) (x : MT) (y : PT) (Q : Option am_V → am_H → Prop) (hm : 0 ≤ m ∧ m < 6) (hn : 0 ≤ n ∧ n < 3) (hs : ai 132 m = x.1) (hy : RepQ (ai 133) (ai 134) (ai 135) (ai 136) (3 * m + n) y) (hk : y.1 = 0 ∨ y.1 = 1 ∨ y.1 = 2) (hp : ¬ y.1 = 2 → prt (DM fi ai) x.1 y) (hI : DI (DM fi ai)) (hr : 0 ≤ row ∧ row < ro (DM fi ai) x.1) (hb : -1 ≤ b ∧ b < 3) (l5 l6 : Option am_V) (w1 : (¬ y.1 = 2 ∧ ¬ nnP (DM fi ai) x.1 row y) → Q (some (.inl (-1))) (HH L B1 B2 fi ai aj)) (w2 : (¬ y.1 = 2 → nnP (DM fi ai) x.1 row y) → ∀ l5 l6 : Option am_V, am_W (am_ev am_prog (d + 2)) T_Mo_badName Q (35, [some (.inr (.inr 126)), some (.inl m), some (.inl row), some (.inl (bst b n y (tbP (DM fi ai) x.1 row y))), some (.inl (n + 1)), l5, l6], [], HH L B1 B2 fi ai aj)) : am_W (am_ev am_prog (d + 2)) T_Mo_badName Q (35, [some (.inr (.inr 126)), some (.inl m), some (.inl row), some (.inl b), some (.inl n), l5, l6], [], HH L B1 B2 fi ai aj) := by
  have ok126 : am_ok (HH L B1 B2 fi ai aj) 126 10 := okI rfl rfl rfl
  have o3 : am_okr (HH L B1 B2 fi ai aj) (am_fr (HH L B1 B2 fi ai aj) 63 126) 1000 (3 * m + n) := ok18 fi ai aj rfl rfl rfl ⟨by omega, by omega⟩
  have e3 : am_ai (HH L B1 B2 fi ai aj) (am_fr (HH L B1 B2 fi ai aj) 63 126) (3 * m + n) = y.1 := hy.1
  have hro := ro_in x.1 hI
  refine am_W.br rfl rfl ⟨trivial, ⟨by omega, by omega⟩, ⟨by omega, by omega⟩⟩ (fun c => absurd c (by omega)) (fun c => ?_)
  -- behind the size
  have h80 : ∀ (isn sz : Int), (¬ y.1 = 2 → nnP (DM fi ai) x.1 row y) → (y.1 = 0 → sz = ((tbP (DM fi ai) x.1 row y).length : Int)) → (0 ≤ sz ∧ sz ≤ 120) → am_W (am_ev am_prog (d + 2)) T_Mo_badName Q (80, [some (.inr (.inr 126)), some (.inl m), some (.inl row), some (.inl b), some (.inl n), some (.inl isn), l6], [.inl sz], HH L B1 B2 fi ai aj) := by
    intro isn sz hnn hsz hszR
    have w3 := w2 hnn
    unfold bst at w3
    refine am_W.br rfl rfl ⟨trivial, ⟨by omega, by omega⟩, ⟨by omega, by omega⟩⟩ (fun c1 => ?_) (fun c1 => absurd (by omega) c1)
    refine am_W.br rfl rfl ⟨trivial, ⟨by omega, by omega⟩, ⟨by omega, by omega⟩⟩ (fun c2 => ?_) (fun c2 => ?_)
    · rw [if_neg (by omega)] at w3
      exact am_W.gp 35 rfl trivial (w3 _ _)
    · refine am_W.br rfl rfl ⟨⟨⟨trivial, ok126⟩, o3⟩, by rw [e3]; exact ⟨by omega, by omega⟩⟩ (fun c3 => ?_) (fun c3 => ?_)
      · rw [e3] at c3
        rw [if_neg (by omega)] at w3
        exact am_W.gp 35 rfl trivial (w3 _ _)
      · rw [e3] at c3
        have h0 := hsz (by omega)
        refine am_W.cs rfl rfl rfl trivial (c_Mo_in (d + 1) sz 1 20 _ ⟨by omega, by omega⟩ ⟨by omega, by omega⟩ ⟨by omega, by omega⟩) ?_
        rintro r1 h1 ⟨rfl, rfl⟩
        by_cases hin : 1 ≤ sz ∧ sz ≤ 20
        · rw [if_pos hin]
          rw [if_neg (by omega)] at w3
          refine am_W.br rfl rfl ⟨trivial, ⟨by omega, by omega⟩⟩ (fun c4 => ?_) (fun c4 => absurd c4 (by decide))
          exact am_W.gp 35 rfl trivial (w3 _ _)
        · rw [if_neg hin]
          rw [if_pos (by omega)] at w3
          refine am_W.br rfl rfl ⟨trivial, ⟨by omega, by omega⟩⟩ (fun c4 => absurd rfl c4) (fun c4 => ?_)
          exact am_W.gp 35 rfl trivial (w3 _ _)
  refine am_W.br rfl rfl ⟨⟨⟨trivial, ok126⟩, o3⟩, by rw [e3]; exact ⟨by omega, by omega⟩, ⟨by omega, by omega⟩⟩ (fun c1 => ?_) (fun c1 => ?_)
  · rw [e3] at c1
    refine am_W.br rfl rfl ⟨trivial, ⟨by omega, by omega⟩⟩ (fun c2 => ?_) (fun c2 => absurd rfl c2)
    exact am_W.gp 80 rfl trivial (h80 0 1 (fun z => absurd (by omega) z) (fun z => by omega) (by omega))
  · rw [e3] at c1
    have hk2 : ¬ y.1 = 2 := by omega
    refine am_W.br rfl rfl ⟨trivial, ⟨by omega, by omega⟩⟩ (fun c2 => absurd c2 (by decide)) (fun c2 => ?_)
    refine am_W.cv 10 m_Mo_sizeOf rfl rfl rfl rfl ⟨trivial, ok126⟩ (c_sizeOf d L B1 B2 fi ai aj m n row x y hm hn hs hy (hp hk2) hI hr) ?_
    rintro v1 h1 ⟨hq, rfl⟩
    rcases hq with ⟨n1, rfl⟩ | ⟨n1, rfl⟩
    · have hs0 := hro.2.2 (by omega)
      have hpp := hp hk2
      have hco := co_in x.1 hI
      have hb2 := (tbP_b hI hs0.1 (fun z => ⟨(hpp.2.1 z).1, fun q hq => okC_mo hco.2.1 ((hpp.2.1 z).2 q hq)⟩) n1).2.1
      exact am_W.gp 80 rfl trivial (h80 1 _ (fun _ => n1) (fun _ => rfl) (by omega))
    · refine am_W.br rfl rfl ⟨trivial, ⟨by omega, by omega⟩, ⟨by omega, by omega⟩⟩ (fun c3 => absurd rfl c3) (fun c3 => ?_)
      exact am_W.rt rfl rfl ⟨trivial, trivial⟩ (w1 ⟨hk2, n1⟩)
set_option maxHeartbeats 400000 in
set_option maxRecDepth 100000 in
theorem c_badName (d L B1 B2 : Nat) (fi : Nat → Nat → Int) (ai aj : Nat → Int → Int) (m row : Int) (x : MT) (hm : 0 ≤ m ∧ m < 6) (hx : RefB ai m x) (hI : DI (DM fi ai)) (hw : wfM (DM fi ai) x) (hr : 0 ≤ row ∧ row < ro (DM fi ai) x.1) : am_M am_prog (d + 3) m_Mo_badName [.inr (.inr 126), .inl m, .inl row] (HH L B1 B2 fi ai aj) (fun v h' => v = some (.inl (bnR (DM fi ai) x row)) ∧ h' = HH L B1 B2 fi ai aj) := by
  obtain ⟨q1, q2, q3, q4, q5⟩ := wfM_q hI hw
  obtain ⟨-, -, -, hs3, k1, k2, -⟩ := wfM_p hI hw
  obtain ⟨r1, r2, r3, r4, -⟩ := id hx
  have hro := ro_in x.1 hI
  have hs0 := hro.2.2 (by omega)
  have ok126 : am_ok (HH L B1 B2 fi ai aj) 126 10 := okI rfl rfl rfl
  have oS : am_okr (HH L B1 B2 fi ai aj) (am_fr (HH L B1 B2 fi ai aj) 62 126) 1000 m := ok6 fi ai aj rfl rfl rfl hm
  have eS : am_ai (HH L B1 B2 fi ai aj) (am_fr (HH L B1 B2 fi ai aj) 62 126) m = x.1 := r1
  have oT : am_okr (HH L B1 B2 fi ai aj) (am_fr (HH L B1 B2 fi ai aj) 58 126) 1002 (16 * x.1 + row) := okrI rfl rfl (t := 1002) (N := 64) rfl rfl (by omega) (by omega)
  have eT : am_ai (HH L B1 B2 fi ai aj) (am_fr (HH L B1 B2 fi ai aj) 58 126) (16 * x.1 + row) = th (DM fi ai) x.1 row := by
    unfold th
    rw [if_pos hr, show x.1 * 16 + row = 16 * x.1 + row by omega]
    rfl
  have hno : ¬ gvs (DM fi ai) x row → bnR (DM fi ai) x row = -1 := fun q => if_neg q
  have hyes : gvs (DM fi ai) x row → bnR (DM fi ai) x row = bdN (DM fi ai) x row := fun q => if_pos q
  refine am_W.of rfl rfl ?_
  rcases th_01 hI x.1 row with ht | ht
  · refine am_W.br rfl rfl ⟨⟨⟨⟨⟨trivial, ok126⟩, ok126⟩, oS⟩, by rw [eS]; exact oT⟩, by rw [eS, eT, ht]; exact ⟨by omega, by omega⟩⟩ (fun c => ?_) (fun c => absurd (by rw [eS, eT]; exact ht) c)
    refine am_W.rt rfl rfl ⟨trivial, trivial⟩ ⟨?_, rfl⟩
    rw [hno (fun z => absurd (ht.symm.trans z.1) (by decide))]
  · refine am_W.br rfl rfl ⟨⟨⟨⟨⟨trivial, ok126⟩, ok126⟩, oS⟩, by rw [eS]; exact oT⟩, by rw [eS, eT, ht]; exact ⟨by omega, by omega⟩⟩ (fun c => absurd c (by rw [eS, eT, ht]; decide)) (fun c => ?_)
    refine am_W.cv 10 m_Mo_holds rfl rfl rfl rfl ⟨trivial, ok126⟩ (c_mholds d L B1 B2 fi ai aj m row x hm hx hI hw hr) ?_
    rintro v1 h1 ⟨hq, rfl⟩
    rcases hq with ⟨n1, rfl⟩ | ⟨n1, rfl⟩
    · refine am_W.br rfl rfl ⟨trivial, ⟨by omega, by omega⟩⟩ (fun c2 => ?_) (fun c2 => absurd c2 (by decide))
      refine am_W.gp 35 rfl trivial ?_
      have hf1 : ∀ (b : Int) (n : Int) (y : PT) (l : List Int), -1 ≤ b ∧ b < 3 → 0 ≤ n ∧ n < 3 → -1 ≤ bst b n y l ∧ bst b n y l < 3 := by
        intro b n y l h1 h2
        unfold bst
        split <;> omega
      refine l_badName d L B1 B2 fi ai aj m 0 row (-1) x x.2.1 _ hm (by omega) r1 (by rw [show 3 * m + 0 = 3 * m by omega]; exact r2) (by omega) (fun _ => q1) hI hr (by omega) none none (fun z => ⟨by rw [hno (fun g => z.2 g.2.2.1)], rfl⟩) (fun m1 l5 l6 => ?_)
      refine l_badName d L B1 B2 fi ai aj m 1 row _ x x.2.2.1 _ hm (by omega) r1 r3 (by omega) (fun _ => q2) hI hr (hf1 _ _ _ _ (by omega) (by omega)) _ _ (fun z => ⟨by rw [hno (fun g => z.2 g.2.2.2.1)], rfl⟩) (fun m2 l5 l6 => ?_)
      refine l_badName d L B1 B2 fi ai aj m 2 row _ x x.2.2.2.1 _ hm (by omega) r1 r4 q5 q3 hI hr (hf1 _ _ _ _ (hf1 _ _ _ _ (by omega) (by omega)) (by omega)) _ _ (fun z => ⟨by rw [hno (fun g => z.2 (g.2.2.2.2 z.1))], rfl⟩) (fun m3 l5 l6 => ?_)
      refine am_W.br rfl rfl ⟨trivial, ⟨by omega, by omega⟩, ⟨by omega, by omega⟩⟩ (fun c3 => ?_) (fun c3 => absurd (by decide) c3)
      refine am_W.rt rfl rfl ⟨trivial, trivial⟩ ⟨?_, rfl⟩
      have hg : gvs (DM fi ai) x row := ⟨ht, n1, m1 (by omega), m2 (by omega), m3⟩
      rw [hyes hg]
      congr 2
      have t1 : x.2.1.1 = 1 → ¬ badT x.2.1.1 (tbP (DM fi ai) x.1 row x.2.1) := fun z => tb1 hI hs0.1 z (m1 (by omega))
      have t3 : x.2.2.2.1.1 = 1 → ¬ badT x.2.2.2.1.1 (tbP (DM fi ai) x.1 row x.2.2.2.1) := fun z => tb1 hI hs0.1 z (m3 (by omega))
      exact bst3 (tbP (DM fi ai) x.1 row x.2.1) (tbP (DM fi ai) x.1 row x.2.2.1) (tbP (DM fi ai) x.1 row x.2.2.2.1) k1 k2 q5 t1 t3
    · refine am_W.br rfl rfl ⟨trivial, ⟨by omega, by omega⟩⟩ (fun c2 => absurd rfl c2) (fun c2 => ?_)
      refine am_W.rt rfl rfl ⟨trivial, trivial⟩ ⟨?_, rfl⟩
      rw [hno (fun z => n1 z.2.1)]
