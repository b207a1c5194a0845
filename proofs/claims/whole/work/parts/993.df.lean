-- the reference: differences
def dff (c : Int → Int → Int) : Nat → List Int → List Int → Int
  | 0, _, _ => 0
  | _ + 1, [], [] => 0
  | k + 1, [], _ :: Q => 1 + dff c k [] Q
  | k + 1, _ :: P, [] => 1 + dff c k P []
  | k + 1, p :: P, q :: Q => if c p q = 0 then dff c k P Q else if c p q < 0 then 1 + dff c k P (q :: Q) else 1 + dff c k (p :: P) Q
theorem dff_nr {c : Int → Int → Int} : ∀ (k : Nat) (P : List Int), P.length ≤ k → dff c k P [] = (P.length : Int)
  | 0, [], _ => rfl
  | 0, p :: P, h => absurd h (by rw [List.length_cons]; omega)
  | k + 1, [], _ => rfl
  | k + 1, p :: P, h => by
    show 1 + dff c k P [] = _
    rw [dff_nr k P (by rw [List.length_cons] at h; omega), List.length_cons]
    omega
theorem dff_nl {c : Int → Int → Int} : ∀ (k : Nat) (Q : List Int), Q.length ≤ k → dff c k [] Q = (Q.length : Int)
  | 0, [], _ => rfl
  | 0, p :: P, h => absurd h (by rw [List.length_cons]; omega)
  | k + 1, [], _ => rfl
  | k + 1, p :: P, h => by
    show 1 + dff c k [] P = _
    rw [dff_nl k P (by rw [List.length_cons] at h; omega), List.length_cons]
    omega
/-- nested: what came -/
theorem dff_in {c : Int → Int → Int} (hc : ordC c) : ∀ (k : Nat) (P Q : List Int), P.length + Q.length ≤ k → P.Pairwise (fun x y => c x y < 0) → Q.Pairwise (fun x y => c x y < 0) → (∀ p ∈ P, ∃ q ∈ Q, c p q = 0) → dff c k P Q = (Q.length : Int) - (P.length : Int)
  | k, [], Q, hk, _, _, _ => by
    rw [dff_nl k Q (by rw [List.length_nil] at hk; omega), List.length_nil]
    omega
  | k, p :: P, [], _, _, _, h => by
    obtain ⟨q, hq, -⟩ := h p (List.mem_cons_self ..)
    cases hq
  | 0, p :: P, q :: Q, hk, _, _, _ => absurd hk (by rw [List.length_cons]; omega)
  | k + 1, p :: P, q :: Q, hk, h1, h2, h => by
    obtain ⟨a1, a2⟩ := List.pairwise_cons.mp h1
    obtain ⟨b1, b2⟩ := List.pairwise_cons.mp h2
    rw [List.length_cons, List.length_cons] at hk
    show (if c p q = 0 then dff c k P Q else if c p q < 0 then 1 + dff c k P (q :: Q) else 1 + dff c k (p :: P) Q) = _
    by_cases e0 : c p q = 0
    · rw [if_pos e0, dff_in hc k P Q (by omega) a2 b2, List.length_cons, List.length_cons]
      · omega
      · intro x hx
        obtain ⟨y, hy, e⟩ := h x (List.mem_cons_of_mem _ hx)
        rcases List.mem_cons.mp hy with g | g
        · rw [g] at e
          have := a1 x hx
          have e2 := ordC_e hc e0 (ordC_s hc e)
          omega
        · exact ⟨y, g, e⟩
    · rw [if_neg e0]
      by_cases e1 : c p q < 0
      · obtain ⟨y, hy, e⟩ := h p (List.mem_cons_self ..)
        rcases List.mem_cons.mp hy with g | g
        · rw [g] at e
          exact absurd e e0
        · have := ordC_l hc e1 (b1 y g)
          omega
      · rw [if_neg e1, dff_in hc k (p :: P) Q (by rw [List.length_cons]; omega) h1 b2, List.length_cons, List.length_cons]
        · omega
        · intro x hx
          obtain ⟨y, hy, e⟩ := h x hx
          rcases List.mem_cons.mp hy with g | g
          · rw [g] at e
            rcases List.mem_cons.mp hx with g2 | g2
            · rw [g2] at e
              exact absurd e e0
            · have := ordC_el hc (a1 x g2) e
              omega
          · exact ⟨y, g, e⟩
theorem dff_out {c : Int → Int → Int} (hc : ordC c) : ∀ (k : Nat) (P Q : List Int), P.length + Q.length ≤ k → P.Pairwise (fun x y => c x y < 0) → Q.Pairwise (fun x y => c x y < 0) → (∀ q ∈ Q, ∃ p ∈ P, c p q = 0) → dff c k P Q = (P.length : Int) - (Q.length : Int)
  | k, P, [], hk, _, _, _ => by
    rw [dff_nr k P (by rw [List.length_nil] at hk; omega), List.length_nil]
    omega
  | k, [], q :: Q, _, _, _, h => by
    obtain ⟨p, hp, -⟩ := h q (List.mem_cons_self ..)
    cases hp
  | 0, p :: P, q :: Q, hk, _, _, _ => absurd hk (by rw [List.length_cons]; omega)
  | k + 1, p :: P, q :: Q, hk, h1, h2, h => by
    obtain ⟨a1, a2⟩ := List.pairwise_cons.mp h1
    obtain ⟨b1, b2⟩ := List.pairwise_cons.mp h2
    rw [List.length_cons, List.length_cons] at hk
    show (if c p q = 0 then dff c k P Q else if c p q < 0 then 1 + dff c k P (q :: Q) else 1 + dff c k (p :: P) Q) = _
    by_cases e0 : c p q = 0
    · rw [if_pos e0, dff_out hc k P Q (by omega) a2 b2, List.length_cons, List.length_cons]
      · omega
      · intro x hx
        obtain ⟨y, hy, e⟩ := h x (List.mem_cons_of_mem _ hx)
        rcases List.mem_cons.mp hy with g | g
        · rw [g] at e
          have := b1 x hx
          have e2 := ordC_e hc (ordC_s hc e0) e
          omega
        · exact ⟨y, g, e⟩
    · rw [if_neg e0]
      by_cases e1 : c p q < 0
      · rw [if_pos e1, dff_out hc k P (q :: Q) (by rw [List.length_cons]; omega) a2 h2, List.length_cons, List.length_cons]
        · omega
        · intro x hx
          obtain ⟨y, hy, e⟩ := h x hx
          rcases List.mem_cons.mp hy with g | g
          · rw [g] at e
            rcases List.mem_cons.mp hx with g2 | g2
            · rw [g2] at e
              exact absurd e e0
            · have := ordC_l hc e1 (b1 x g2)
              omega
          · exact ⟨y, g, e⟩
      · obtain ⟨y, hy, e⟩ := h q (List.mem_cons_self ..)
        rcases List.mem_cons.mp hy with g | g
        · rw [g] at e
          exact absurd e e0
        · have := ordC_el hc (a1 y g) e
          omega
theorem gDd {P : List Int} {i : Nat} (h : i < P.length) : P.drop i = gD P i :: P.drop (i + 1) := by
  rw [List.drop_eq_getElem_cons h]
  congr 1
  have := gD_lt h
  rw [List.getElem?_eq_getElem h] at this
  exact Option.some.inj this
set_option maxHeartbeats 400000 in
set_option maxRecDepth 100000 in
theorem c_differences (d L B1 B2 : Nat) (fi : Nat → Nat → Int) (ai aj : Nat → Int → Int) (c : Int → Int → Int) (TM : Int → Int → Int × List Int) (gr : Int → Int) (P Q : List Int) (hG : fi 94 126 = (Q.length : Int)) (hH : fi 103 126 = (P.length : Int)) (hP : P.length ≤ 1536) (hQ : Q.length ≤ 1536) (hO : ∀ i : Nat, i < P.length → (0 ≤ ai 168 (i : Int) ∧ ai 168 (i : Int) < (P.length : Int)) ∧ (∀ n, 0 ≤ n → n < 3 → slA (ai 166) (ai 165) (ai 164) (ai 168 (i : Int)) n (TM (gD P i) n)) ∧ ai 167 (ai 168 (i : Int)) = gr (gD P i)) (hS : ∀ i : Nat, i < Q.length → (0 ≤ ai 163 (i : Int) ∧ ai 163 (i : Int) < (Q.length : Int)) ∧ slR ai (ai 163 (i : Int)) (TM (gD Q i)) (gr (gD Q i))) (hk : ∀ p ∈ P, KOw c TM gr p) (hq : ∀ q ∈ Q, KOw c TM gr q) (hcm : ∀ p ∈ P, ∀ q ∈ Q, cmT (TM p) (TM q) (gr p) (gr q) = c p q) : am_M am_prog (d + 2) m_Mo_differences [.inr (.inr 126)] (HH L B1 B2 fi ai aj) (fun v h' => v = some (.inl (dff c (P.length + Q.length) P Q)) ∧ h' = HH L B1 B2 fi ai aj) := by
  have ok126 : am_ok (HH L B1 B2 fi ai aj) 126 10 := okI rfl rfl rfl
  have eG : am_fi (HH L B1 B2 fi ai aj) 94 126 = (Q.length : Int) := hG
  have eH : am_fi (HH L B1 B2 fi ai aj) 103 126 = (P.length : Int) := hH
  -- behind the comparing
  have h62 : ∀ (Z : Option am_V → am_H → Prop) (i j n y : Int) (l4 : Option am_V), 0 ≤ i ∧ i ≤ 1536 → 0 ≤ j ∧ j ≤ 1536 → 0 ≤ n ∧ n ≤ 4000 → -300 ≤ y ∧ y ≤ 300 → am_W (am_ev am_prog (d + 1)) T_Mo_differences Z (6, [some (.inr (.inr 126)), some (.inl (i + (if y ≤ 0 then 1 else 0))), some (.inl (j + (if 0 ≤ y then 1 else 0))), some (.inl (n + (if y = 0 then 0 else 1))), some (.inl y)], [], HH L B1 B2 fi ai aj) → am_W (am_ev am_prog (d + 1)) T_Mo_differences Z (62, [some (.inr (.inr 126)), some (.inl i), some (.inl j), some (.inl n), l4], [.inl y], HH L B1 B2 fi ai aj) := by
    intro Z i j n y l4 hi hj hn hy w
    rcases Int.lt_trichotomy y 0 with h | h | h
    · rw [if_pos (by omega), if_neg (by omega), if_neg (by omega)] at w
      refine am_W.br rfl rfl ⟨trivial, ⟨by omega, by omega⟩⟩ (fun z => ?_) (fun z => absurd (by omega) z)
      refine am_W.br rfl rfl ⟨trivial, ⟨by omega, by omega⟩⟩ (fun z => absurd z (by omega)) (fun z => ?_)
      refine am_W.br rfl rfl ⟨trivial, ⟨by omega, by omega⟩⟩ (fun z => ?_) (fun z => absurd (by omega) z)
      exact am_W.gp 6 rfl trivial w
    · rw [if_pos (by omega), if_pos (by omega), if_pos (by omega)] at w
      refine am_W.br rfl rfl ⟨trivial, ⟨by omega, by omega⟩⟩ (fun z => absurd h z) (fun z => ?_)
      refine am_W.br rfl rfl ⟨trivial, ⟨by omega, by omega⟩⟩ (fun z => absurd z (by omega)) (fun z => ?_)
      refine am_W.br rfl rfl ⟨trivial, ⟨by omega, by omega⟩⟩ (fun z => absurd z (by omega)) (fun z => ?_)
      exact am_W.gp 6 rfl trivial w
    · rw [if_neg (by omega), if_pos (by omega), if_neg (by omega)] at w
      refine am_W.br rfl rfl ⟨trivial, ⟨by omega, by omega⟩⟩ (fun z => ?_) (fun z => absurd (by omega) z)
      refine am_W.br rfl rfl ⟨trivial, ⟨by omega, by omega⟩⟩ (fun z => ?_) (fun z => absurd (by omega) z)
      refine am_W.br rfl rfl ⟨trivial, ⟨by omega, by omega⟩⟩ (fun z => absurd z (by omega)) (fun z => ?_)
      exact am_W.gp 6 rfl trivial w
  have hloop : ∀ (k i j : Nat) (n : Int) (l4 : Option am_V), i ≤ P.length → j ≤ Q.length → (P.length - i) + (Q.length - j) ≤ k → 0 ≤ n ∧ n + k ≤ 3500 → am_W (am_ev am_prog (d + 1)) T_Mo_differences (fun v h' => v = some (.inl (n + dff c k (P.drop i) (Q.drop j))) ∧ h' = HH L B1 B2 fi ai aj) (6, [some (.inr (.inr 126)), some (.inl (i : Int)), some (.inl (j : Int)), some (.inl n), l4], [], HH L B1 B2 fi ai aj) := by
    intro k
    induction k with
    | zero =>
      intro i j n l4 hi hj hk0 hn
      refine am_W.br rfl rfl ⟨⟨trivial, ok126⟩, ⟨by omega, by omega⟩, by rw [eH]; exact ⟨by omega, by omega⟩⟩ (fun z => absurd z (by rw [eH]; omega)) (fun z => ?_)
      refine am_W.br rfl rfl ⟨⟨trivial, ok126⟩, ⟨by omega, by omega⟩, by rw [eG]; exact ⟨by omega, by omega⟩⟩ (fun z => ?_) (fun z => absurd (by rw [eG]; omega) z)
      refine am_W.rt rfl rfl ⟨trivial, trivial⟩ ⟨?_, rfl⟩
      show _ = some (Sum.inl (n + 0))
      rw [Int.add_zero]
    | succ k ih =>
      intro i j n l4 hi hj hk0 hn
      by_cases ci : i < P.length
      · have h22 : am_W (am_ev am_prog (d + 1)) T_Mo_differences (fun v h' => v = some (.inl (n + dff c (k + 1) (P.drop i) (Q.drop j))) ∧ h' = HH L B1 B2 fi ai aj) (22, [some (.inr (.inr 126)), some (.inl (i : Int)), some (.inl (j : Int)), some (.inl n), l4], [], HH L B1 B2 fi ai aj) := by
          refine am_W.br rfl rfl ⟨⟨trivial, ok126⟩, ⟨by omega, by omega⟩, by rw [eH]; exact ⟨by omega, by omega⟩⟩ (fun z => ?_) (fun z => absurd (by rw [eH]; omega) z)
          by_cases cj : j < Q.length
          · refine am_W.br rfl rfl ⟨⟨trivial, ok126⟩, ⟨by omega, by omega⟩, by rw [eG]; exact ⟨by omega, by omega⟩⟩ (fun z => ?_) (fun z => absurd (by rw [eG]; omega) z)
            obtain ⟨o1, o2, o3⟩ := hO i ci
            obtain ⟨s1, s2⟩ := hS j cj
            have kp := hk _ (gD_m ci)
            have kq := hq _ (gD_m cj)
            have hcc := hcm _ (gD_m ci) _ (gD_m cj)
            have oO : am_okr (HH L B1 B2 fi ai aj) (am_fr (HH L B1 B2 fi ai aj) 108 126) 1000 (i : Int) := okrI rfl rfl (t := 1000) (N := 1600) rfl rfl (by omega) (by omega)
            have oP : am_okr (HH L B1 B2 fi ai aj) (am_fr (HH L B1 B2 fi ai aj) 102 126) 1000 (j : Int) := okrI rfl rfl (t := 1000) (N := 1600) rfl rfl (by omega) (by omega)
            have eO : am_ai (HH L B1 B2 fi ai aj) (am_fr (HH L B1 B2 fi ai aj) 108 126) (i : Int) = ai 168 (i : Int) := rfl
            have eP : am_ai (HH L B1 B2 fi ai aj) (am_fr (HH L B1 B2 fi ai aj) 102 126) (j : Int) = ai 163 (j : Int) := rfl
            have cc := c_compareOld d L B1 B2 fi ai aj (ai 168 (i : Int)) (ai 163 (j : Int)) (gr (gD P i)) (gr (gD Q j)) (TM (gD P i)) (TM (gD Q j)) ⟨by omega, by omega⟩ ⟨by omega, by omega⟩ (fun t h0 h3 => ⟨o2 t h0 h3, slR_A s2 t h0 h3, kp.1 t h0 h3, kq.1 t h0 h3⟩) o3 s2.2.2.2 kp.2 kq.2
            rw [hcc] at cc
            refine am_W.cv 10 m_Mo_compareOld rfl rfl rfl rfl ⟨⟨⟨⟨⟨trivial, ok126⟩, oO⟩, ok126⟩, oP⟩, ok126⟩ (by rw [eO, eP]; exact cc) ?_
            rintro v1 h1 ⟨y, rfl, hsg, hyR, rfl⟩
            refine h62 _ _ _ _ y _ ⟨by omega, by omega⟩ ⟨by omega, by omega⟩ ⟨by omega, by omega⟩ hyR ?_
            rw [gDd ci, gDd cj]
            show am_W _ _ (fun v h' => v = some (.inl (n + (if c (gD P i) (gD Q j) = 0 then dff c k (P.drop (i + 1)) (Q.drop (j + 1)) else if c (gD P i) (gD Q j) < 0 then 1 + dff c k (P.drop (i + 1)) (gD Q j :: Q.drop (j + 1)) else 1 + dff c k (gD P i :: P.drop (i + 1)) (Q.drop (j + 1))))) ∧ _) _
            rw [← gDd ci, ← gDd cj]
            rcases hsg with ⟨e, h⟩ | ⟨e, h⟩ | ⟨e, h⟩
            · rw [e, if_neg (by decide), if_pos (by decide), if_pos (by omega), if_neg (by omega), if_neg (by omega)]
              have := ih (i + 1) j (n + 1) (some (.inl y)) (by omega) hj (by omega) (by omega)
              rw [show n + 1 + dff c k (P.drop (i + 1)) (Q.drop j) = n + (1 + dff c k (P.drop (i + 1)) (Q.drop j)) by omega] at this
              rw [Int.add_zero]
              exact this
            · rw [e, if_pos rfl, if_pos (by omega), if_pos (by omega), if_pos (by omega)]
              have := ih (i + 1) (j + 1) n (some (.inl y)) (by omega) (by omega) (by omega) (by omega)
              rw [Int.add_zero]
              exact this
            · rw [e, if_neg (by decide), if_neg (by decide), if_neg (by omega), if_pos (by omega), if_neg (by omega)]
              have := ih i (j + 1) (n + 1) (some (.inl y)) (by omega) (by omega) (by omega) (by omega)
              rw [show n + 1 + dff c k (P.drop i) (Q.drop (j + 1)) = n + (1 + dff c k (P.drop i) (Q.drop (j + 1))) by omega] at this
              rw [Int.add_zero]
              exact this
          · refine am_W.br rfl rfl ⟨⟨trivial, ok126⟩, ⟨by omega, by omega⟩, by rw [eG]; exact ⟨by omega, by omega⟩⟩ (fun z => absurd (by rw [eG]; omega) z) (fun z => ?_)
            refine am_W.gp 62 rfl trivial ?_
            refine h62 _ _ _ _ (-1) _ ⟨by omega, by omega⟩ ⟨by omega, by omega⟩ ⟨by omega, by omega⟩ (by omega) ?_
            rw [gDd ci, List.drop_eq_nil_of_le (show Q.length ≤ j by omega)]
            show am_W _ _ (fun v h' => v = some (.inl (n + (1 + dff c k (P.drop (i + 1)) []))) ∧ _) _
            rw [if_pos (by decide), if_neg (by decide), if_neg (by decide), Int.add_zero]
            have := ih (i + 1) j (n + 1) (some (.inl (-1))) (by omega) hj (by omega) (by omega)
            rw [List.drop_eq_nil_of_le (show Q.length ≤ j by omega), show n + 1 + dff c k (P.drop (i + 1)) [] = n + (1 + dff c k (P.drop (i + 1)) []) by omega] at this
            exact this
        exact am_W.br rfl rfl ⟨⟨trivial, ok126⟩, ⟨by omega, by omega⟩, by rw [eH]; exact ⟨by omega, by omega⟩⟩ (fun z => h22) (fun z => absurd (by rw [eH]; omega) z)
      · refine am_W.br rfl rfl ⟨⟨trivial, ok126⟩, ⟨by omega, by omega⟩, by rw [eH]; exact ⟨by omega, by omega⟩⟩ (fun z => absurd z (by rw [eH]; omega)) (fun z => ?_)
        rw [List.drop_eq_nil_of_le (show P.length ≤ i by omega)]
        by_cases cj : j < Q.length
        · refine am_W.br rfl rfl ⟨⟨trivial, ok126⟩, ⟨by omega, by omega⟩, by rw [eG]; exact ⟨by omega, by omega⟩⟩ (fun z => absurd z (by rw [eG]; omega)) (fun z => ?_)
          refine am_W.br rfl rfl ⟨⟨trivial, ok126⟩, ⟨by omega, by omega⟩, by rw [eH]; exact ⟨by omega, by omega⟩⟩ (fun z => absurd (by rw [eH]; omega) z) (fun z => ?_)
          refine am_W.gp 62 rfl trivial ?_
          refine h62 _ _ _ _ 1 _ ⟨by omega, by omega⟩ ⟨by omega, by omega⟩ ⟨by omega, by omega⟩ (by omega) ?_
          rw [gDd cj]
          show am_W _ _ (fun v h' => v = some (.inl (n + (1 + dff c k [] (Q.drop (j + 1))))) ∧ _) _
          rw [if_neg (by decide), if_pos (by decide), if_neg (by decide), Int.add_zero]
          have := ih i (j + 1) (n + 1) (some (.inl 1)) hi (by omega) (by omega) (by omega)
          rw [List.drop_eq_nil_of_le (show P.length ≤ i by omega), show n + 1 + dff c k [] (Q.drop (j + 1)) = n + (1 + dff c k [] (Q.drop (j + 1))) by omega] at this
          exact this
        · refine am_W.br rfl rfl ⟨⟨trivial, ok126⟩, ⟨by omega, by omega⟩, by rw [eG]; exact ⟨by omega, by omega⟩⟩ (fun z => ?_) (fun z => absurd (by rw [eG]; omega) z)
          rw [List.drop_eq_nil_of_le (show Q.length ≤ j by omega)]
          refine am_W.rt rfl rfl ⟨trivial, trivial⟩ ⟨?_, rfl⟩
          show _ = some (Sum.inl (n + 0))
          rw [Int.add_zero]
  refine am_W.of rfl rfl ?_
  refine am_W.gp 6 rfl trivial ?_
  have := hloop (P.length + Q.length) 0 0 0 none (Nat.zero_le _) (Nat.zero_le _) (by omega) (by omega)
  rw [Int.zero_add] at this
  exact this
