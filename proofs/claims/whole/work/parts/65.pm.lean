-- printing by the class: parts, conditions, mappings
set_option maxHeartbeats 400000 in
set_option maxRecDepth 100000 in
theorem c_putPart (d L B1 B2 : Nat) (fi : Nat → Nat → Int) (ai aj : Nat → Int → Int) (p : Nat) (x : PT) (l : List Int) (hp : PartAt L B1 B2 p) (hx : RepP fi ai p x) (hk : x.1 = 0 ∨ x.1 = 1 ∨ x.1 = 2) (h0 : x.1 = 0 → x.2.2.length ≤ 30 ∧ ∀ q ∈ x.2.2, okC 4 q) (h1 : x.1 ≠ 0 → 0 ≤ x.2.1 ∧ x.2.1 ≤ 9999) (hl : l.length + (prP x).length ≤ 626) : am_M am_prog (d + 4) m_Pr_putPart [.inr (.inr 36), .inr (.inr p)] (HP L B1 B2 fi ai aj l) (fun w h' => w = none ∧ h' = HP L B1 B2 fi ai aj (l ++ prP x)) := by
  obtain ⟨r1, r2, r3⟩ := hx
  have p0 := hp.1
  have p1 := hp.2.1
  have e50 : ∀ l, am_fi (HP L B1 B2 fi ai aj l) 50 p = x.1 := fun l => by rw [HP_fi _ _ _ _ _ _ _ (by omega)]; exact r1
  have e51 : x.1 ≠ 0 → ∀ l, am_fi (HP L B1 B2 fi ai aj l) 51 p = x.2.1 := fun q l => by rw [HP_fi _ _ _ _ _ _ _ (by omega)]; exact r2 q
  refine am_W.of rfl rfl ?_
  unfold prP at hl ⊢
  refine am_W.br rfl rfl ⟨⟨trivial, HP_pa _ _ _ _ hp⟩, by rw [e50]; exact ⟨by omega, by omega⟩⟩ (fun c1 => ?_) (fun c1 => ?_)
  · rw [e50] at c1
    rw [if_neg c1] at hl ⊢
    rw [List.length_append, List.length_singleton] at hl
    have hl2 : l.length + (1 + (dgs x.2.1 ++ [32]).length) ≤ 626 := hl
    have hnum : ∀ b : Int, am_W (am_ev am_prog (d + 3)) T_Pr_putPart (fun w h' => w = none ∧ h' = HP L B1 B2 fi ai aj (l ++ ([b] ++ (dgs x.2.1 ++ [32])))) (31, [some (.inr (.inr 36)), some (.inr (.inr p))], [.inl b, .inr (.inr 36)], HP L B1 B2 fi ai aj l) := by
      intro b
      refine am_W.cv 6 m_Pr_put rfl rfl rfl rfl ⟨trivial, HP_ok _ _ _ _ _ _ _⟩ (c_Pr_put (d + 2) L B1 B2 fi ai aj l b (by omega)) ?_
      rintro r1 h1 ⟨rfl, rfl⟩
      refine am_W.cv 6 m_Pr_putNumberToken rfl rfl rfl rfl ⟨⟨trivial, HP_pa _ _ _ _ hp⟩, HP_ok _ _ _ _ _ _ _⟩ (by rw [show am_gf (HP L B1 B2 fi ai aj (l ++ [b])) 51 p 0 = .inl x.2.1 from congrArg Sum.inl (e51 c1 _)]; exact c_putNumberToken d L B1 B2 fi ai aj (l ++ [b]) x.2.1 (h1 c1) (by rw [List.length_append, List.length_singleton]; omega)) ?_
      rintro r1 h1 ⟨rfl, rfl⟩
      rw [List.append_assoc]
      exact am_W.rt rfl rfl ⟨trivial, trivial⟩ ⟨rfl, rfl⟩
    refine am_W.br rfl rfl ⟨⟨trivial, HP_pa _ _ _ _ hp⟩, by rw [e50]; exact ⟨by omega, by omega⟩, ⟨by omega, by omega⟩⟩ (fun c2 => ?_) (fun c2 => ?_)
    · rw [e50] at c2
      rw [if_neg c2]
      exact am_W.gp 31 rfl trivial (hnum 36)
    · rw [e50] at c2
      rw [if_pos (by omega)]
      exact am_W.gp 31 rfl trivial (hnum 95)
  · rw [e50] at c1
    have c1' : x.1 = 0 := by omega
    rw [if_pos c1'] at hl ⊢
    rw [List.length_append, List.length_singleton] at hl
    have hr3 := r3 c1'
    obtain ⟨h30, hok⟩ := h0 c1'
    have htm : am_M am_prog (d + 3) m_Pr_putTemplate [.inr (.inr 36), .inr (.inr p)] (HP L B1 B2 fi ai aj l) (fun w h' => w = none ∧ h' = HP L B1 B2 fi ai aj (l ++ ([34] ++ (prL x.2.2 ++ [34, 32])))) := by
      refine am_W.of rfl rfl ?_
      refine am_W.cv 6 m_Pr_put rfl rfl rfl rfl ⟨trivial, HP_ok _ _ _ _ _ _ _⟩ (c_Pr_put (d + 1) L B1 B2 fi ai aj l 34 (by omega)) ?_
      rintro r1 h1 ⟨rfl, rfl⟩
      have hw := l_putTemplate d L B1 B2 fi ai aj p hp x.2.2 (l ++ [34]) hr3.1 h30 hr3.2 hok (by rw [List.length_append, List.length_singleton]; omega) x.2.2 [] 0 none rfl rfl
      rw [show prL [] = [] from rfl, List.append_nil, List.append_assoc] at hw
      exact am_W.gp 8 rfl trivial hw
    refine am_W.cv 6 m_Pr_putTemplate rfl rfl rfl rfl ⟨trivial, HP_ok _ _ _ _ _ _ _⟩ htm ?_
    rintro r1 h1 ⟨rfl, rfl⟩
    exact am_W.rt rfl rfl ⟨trivial, trivial⟩ ⟨rfl, rfl⟩
set_option maxHeartbeats 400000 in
set_option maxRecDepth 100000 in
theorem c_putCondition (d L B1 B2 : Nat) (fi : Nat → Nat → Int) (ai aj : Nat → Int → Int) (r : Nat) (c : JT) (l : List Int) (hp : MapAt L B1 B2 r) (h46 : fi 46 r = c.1) (h47 : fi 47 r = c.2.1) (h48 : c.1 ≠ 1853189228 → fi 48 r = c.2.2) (hn : ¬ c.1 = -1) (hR : am_R c.1) (hc : 0 ≤ c.2.1 ∧ c.2.1 ≤ 9999) (hm : 0 ≤ c.2.2 ∧ c.2.2 ≤ 9999) (hl : l.length + (prT c).length ≤ 626) : am_M am_prog (d + 7) m_Pr_putCondition [.inr (.inr 36), .inr (.inr r)] (HP L B1 B2 fi ai aj l) (fun w h' => w = none ∧ h' = HP L B1 B2 fi ai aj (l ++ prT c)) := by
  have p0 := hp.1
  have e46 : ∀ l, am_fi (HP L B1 B2 fi ai aj l) 46 r = c.1 := fun l => by rw [HP_fi _ _ _ _ _ _ _ (by omega)]; exact h46
  have e47 : ∀ l, am_fi (HP L B1 B2 fi ai aj l) 47 r = c.2.1 := fun l => by rw [HP_fi _ _ _ _ _ _ _ (by omega)]; exact h47
  have e48 : c.1 ≠ 1853189228 → ∀ l, am_fi (HP L B1 B2 fi ai aj l) 48 r = c.2.2 := fun q l => by rw [HP_fi _ _ _ _ _ _ _ (by omega)]; exact h48 q
  refine am_W.of rfl rfl ?_
  unfold prT at hl ⊢
  rw [if_neg hn] at hl ⊢
  simp only [List.length_append, List.length_cons, List.length_nil] at hl
  refine am_W.cv 6 m_Pr_putToken rfl rfl rfl rfl ⟨trivial, HP_ok _ _ _ _ _ _ _⟩ (c_putToken d L B1 B2 fi ai aj l 6 (by decide) (by show l.length + (2 + 1) ≤ 626; omega)) ?_
  rintro r1 h1 ⟨rfl, rfl⟩
  show am_W _ _ _ (_, _, _, HP L B1 B2 fi ai aj (l ++ [105, 102, 32]))
  have hmid : ∀ l1 : List Int, l1.length + ((1 : Nat) + (dgs c.2.1).length + 1 + (if c.1 = 1853189228 then ([] : List Int) else [c.1, 32] ++ (dgs c.2.2 ++ [32])).length) ≤ 626 → am_W (am_ev am_prog (d + 6)) T_Pr_putCondition (fun w h' => w = none ∧ h' = HP L B1 B2 fi ai aj (l1 ++ ([36] ++ (dgs c.2.1 ++ ([32] ++ (if c.1 = 1853189228 then [] else [c.1, 32] ++ (dgs c.2.2 ++ [32]))))))) (21, [some (.inr (.inr 36)), some (.inr (.inr r))], [], HP L B1 B2 fi ai aj l1) := by
    intro l1 h1
    refine am_W.cv 6 m_Pr_put rfl rfl rfl rfl ⟨trivial, HP_ok _ _ _ _ _ _ _⟩ (c_Pr_put (d + 5) L B1 B2 fi ai aj l1 36 (by omega)) ?_
    rintro r1 h1 ⟨rfl, rfl⟩
    refine am_W.cv 6 m_Pr_putNumberToken rfl rfl rfl rfl ⟨⟨trivial, HP_ma _ _ _ _ hp⟩, HP_ok _ _ _ _ _ _ _⟩ (by rw [show am_gf (HP L B1 B2 fi ai aj (l1 ++ [36])) 47 r 0 = .inl c.2.1 from congrArg Sum.inl (e47 _)]; exact c_putNumberToken (d + 3) L B1 B2 fi ai aj (l1 ++ [36]) c.2.1 hc (by simp only [List.length_append, List.length_cons, List.length_nil]; omega)) ?_
    rintro r1 h1 ⟨rfl, rfl⟩
    by_cases hz : c.1 = 1853189228
    · rw [if_pos hz] at h1 ⊢
      refine am_W.br rfl rfl ⟨⟨trivial, HP_ma _ _ _ _ hp⟩, by rw [e46]; exact hR, ⟨by omega, by omega⟩⟩ (fun c1 => ?_) (fun c1 => absurd hz (by rw [e46] at c1; exact c1))
      refine am_W.rt rfl rfl ⟨trivial, trivial⟩ ⟨rfl, ?_⟩
      simp only [List.append_assoc, List.append_nil]
    · rw [if_neg hz] at h1 ⊢
      simp only [List.length_append, List.length_cons, List.length_nil] at h1
      refine am_W.br rfl rfl ⟨⟨trivial, HP_ma _ _ _ _ hp⟩, by rw [e46]; exact hR, ⟨by omega, by omega⟩⟩ (fun c1 => absurd (by rw [e46] at c1; exact c1) hz) (fun c1 => ?_)
      refine am_W.cv 6 m_Pr_put rfl rfl rfl rfl ⟨⟨trivial, HP_ma _ _ _ _ hp⟩, HP_ok _ _ _ _ _ _ _⟩ (by rw [show am_gf (HP L B1 B2 fi ai aj (l1 ++ [36] ++ (dgs c.2.1 ++ [32]))) 46 r 0 = .inl c.1 from congrArg Sum.inl (e46 _)]; exact c_Pr_put (d + 5) L B1 B2 fi ai aj (l1 ++ [36] ++ (dgs c.2.1 ++ [32])) c.1 (by simp only [List.length_append, List.length_cons, List.length_nil]; omega)) ?_
      rintro r1 h1 ⟨rfl, rfl⟩
      refine am_W.cv 6 m_Pr_put rfl rfl rfl rfl ⟨trivial, HP_ok _ _ _ _ _ _ _⟩ (c_Pr_put (d + 5) L B1 B2 fi ai aj (l1 ++ [36] ++ (dgs c.2.1 ++ [32]) ++ [c.1]) 32 (by simp only [List.length_append, List.length_cons, List.length_nil]; omega)) ?_
      rintro r1 h1 ⟨rfl, rfl⟩
      refine am_W.cv 6 m_Pr_putNumberToken rfl rfl rfl rfl ⟨⟨trivial, HP_ma _ _ _ _ hp⟩, HP_ok _ _ _ _ _ _ _⟩ (by rw [show am_gf (HP L B1 B2 fi ai aj (l1 ++ [36] ++ (dgs c.2.1 ++ [32]) ++ [c.1] ++ [32])) 48 r 0 = .inl c.2.2 from congrArg Sum.inl (e48 hz _)]; exact c_putNumberToken (d + 3) L B1 B2 fi ai aj (l1 ++ [36] ++ (dgs c.2.1 ++ [32]) ++ [c.1] ++ [32]) c.2.2 hm (by simp only [List.length_append, List.length_cons, List.length_nil]; omega)) ?_
      rintro r1 h1 ⟨rfl, rfl⟩
      refine am_W.rt rfl rfl ⟨trivial, trivial⟩ ⟨rfl, ?_⟩
      simp only [List.append_assoc, List.cons_append, List.nil_append]
  by_cases hz : c.1 = 1853189228
  · have h1 : (if c.1 = 1853189228 then ([] : List Int) else [c.1, 32] ++ (dgs c.2.2 ++ [32])).length = 0 := by rw [if_pos hz]; rfl
    have hm2 := hmid (l ++ [105, 102, 32] ++ [110, 117, 108, 108, 32])
    rw [h1] at hm2
    rw [show (if c.1 = 1853189228 then ([110, 117, 108, 108, 32] : List Int) else []) = [110, 117, 108, 108, 32] from if_pos hz] at hl ⊢
    simp only [List.length_append, List.length_cons, List.length_nil] at hl hm2
    refine am_W.br rfl rfl ⟨⟨trivial, HP_ma _ _ _ _ hp⟩, by rw [e46]; exact hR, ⟨by omega, by omega⟩⟩ (fun c1 => absurd hz (by rw [e46] at c1; exact c1)) (fun c1 => ?_)
    refine am_W.cv 6 m_Pr_putToken rfl rfl rfl rfl ⟨trivial, HP_ok _ _ _ _ _ _ _⟩ (c_putToken d L B1 B2 fi ai aj (l ++ [105, 102, 32]) 7 (by decide) (by show (l ++ [105, 102, 32]).length + (4 + 1) ≤ 626; simp only [List.length_append, List.length_cons, List.length_nil]; omega)) ?_
    rintro r1 h1 ⟨rfl, rfl⟩
    refine (hm2 (by omega)).mono ?_
    rintro w h' ⟨rfl, rfl⟩
    refine ⟨rfl, ?_⟩
    simp only [List.append_assoc]
  · have hm2 := hmid (l ++ [105, 102, 32])
    rw [show (if c.1 = 1853189228 then ([110, 117, 108, 108, 32] : List Int) else []) = [] from if_neg hz] at hl ⊢
    rw [List.nil_append]
    simp only [List.length_append, List.length_cons, List.length_nil] at hl hm2
    refine am_W.br rfl rfl ⟨⟨trivial, HP_ma _ _ _ _ hp⟩, by rw [e46]; exact hR, ⟨by omega, by omega⟩⟩ (fun c1 => ?_) (fun c1 => absurd (by rw [e46] at c1; omega) hz)
    refine (hm2 (by omega)).mono ?_
    rintro w h' ⟨rfl, rfl⟩
    refine ⟨rfl, ?_⟩
    simp only [List.append_assoc]
set_option maxHeartbeats 400000 in
set_option maxRecDepth 100000 in
theorem c_isJoin (d L B1 B2 : Nat) (fi : Nat → Nat → Int) (ai aj : Nat → Int → Int) (r : Nat) (h : am_H) (hok : am_ok h r 8) (hR : am_R (am_fi h 43 r)) : am_M am_prog (d + 1) m_Ma_isJoin [.inr (.inr r)] h (fun v h' => v = some (.inl (if am_fi h 43 r = -1 then 0 else 1)) ∧ h' = h) := by
  refine am_W.of rfl rfl ?_
  refine am_W.br rfl rfl ⟨⟨trivial, hok⟩, hR, ⟨by omega, by omega⟩⟩ (fun c1 => ?_) (fun c1 => ?_)
  · rw [if_pos c1]
    exact am_W.rt rfl rfl ⟨trivial, Or.inl rfl⟩ ⟨rfl, rfl⟩
  · rw [if_neg c1]
    exact am_W.rt rfl rfl ⟨trivial, Or.inr rfl⟩ ⟨rfl, rfl⟩
theorem wfP_p {k : Int} {x : PT} (hk : k ≤ 4) (h : wfP k x) : (x.1 = 0 ∨ x.1 = 1 ∨ x.1 = 2) ∧ (x.1 = 0 → x.2.2.length ≤ 30 ∧ ∀ q ∈ x.2.2, okC 4 q) ∧ (x.1 ≠ 0 → 0 ≤ x.2.1 ∧ x.2.1 ≤ 9999) := by
  rcases h with ⟨h1, h2, h3⟩ | ⟨h1, h2, h3⟩
  · exact ⟨Or.inl h1, fun _ => ⟨h2, fun q hq => okC_mo hk (h3 q hq)⟩, fun q => absurd h1 q⟩
  · exact ⟨Or.inr (Or.inl h1), fun q => absurd (q.symm.trans h1) (by decide), fun _ => by omega⟩
set_option maxHeartbeats 4000000 in
set_option maxRecDepth 100000 in
theorem c_putMapping (d L B1 B2 : Nat) (fi : Nat → Nat → Int) (ai aj : Nat → Int → Int) (r : Nat) (x : MT) (D : DT) (l : List Int) (hp : MapAt L B1 B2 r) (hx : RepM fi ai r x) (hI : DI D) (hw : wfM D x) (hl : l.length + (prM x).length ≤ 626) : am_M am_prog (d + 8) m_Pr_putMapping [.inr (.inr 36), .inr (.inr r)] (HP L B1 B2 fi ai aj l) (fun w h' => w = none ∧ h' = HP L B1 B2 fi ai aj (l ++ prM x)) := by
  obtain ⟨p0, p1, hC, hf3, hf4, hf5, hpa, hpb, hpc⟩ := id hp
  obtain ⟨s, P1, P2, P3, J, C, g⟩ := x
  obtain ⟨r1, r2, r3, r4, r5, r6, r7, r8, r9, r10⟩ := hx
  obtain ⟨w1, w2, w3, w4, w5, w6⟩ := hw
  dsimp only at *
  have hn := hI.1
  have hco := co_in s hI
  have q1 := wfP_p (by omega) w2
  have q2 := wfP_p (by omega) w3.1
  have q3 : (P3.1 = 0 ∨ P3.1 = 1 ∨ P3.1 = 2) ∧ (P3.1 = 0 → P3.2.2.length ≤ 30 ∧ ∀ q ∈ P3.2.2, okC 4 q) ∧ (P3.1 ≠ 0 → 0 ≤ P3.2.1 ∧ P3.2.1 ≤ 9999) := by
    rcases w4 with ⟨h, -⟩ | ⟨h1, -, h3, h4⟩
    · exact wfP_p (by omega) h
    · refine ⟨Or.inr (Or.inr h1), fun q => absurd (q.symm.trans h1) (by decide), fun _ => ⟨h3, ?_⟩⟩
      rcases h4 with h4 | h4
      · omega
      · have := co_in J.1 hI
        omega
  have hJ : am_R J.1 ∧ (J.1 ≠ -1 → (0 ≤ J.1 ∧ J.1 ≤ 9999) ∧ (0 ≤ J.2.1 ∧ J.2.1 ≤ 9999) ∧ (0 ≤ J.2.2 ∧ J.2.2 ≤ 9999)) := by
    rcases w4 with ⟨-, h⟩ | ⟨-, -, -, h4⟩
    · exact ⟨⟨by omega, by omega⟩, fun q => absurd h q⟩
    · rcases h4 with h4 | h4
      · exact ⟨⟨by omega, by omega⟩, fun q => absurd h4.1 q⟩
      · have := co_in J.1 hI
        exact ⟨⟨by omega, by omega⟩, fun q => ⟨by omega, by omega, by omega⟩⟩
  have hCR : am_R C.1 := by constructor <;> omega
  have hC2 : ¬ C.1 = -1 → (0 ≤ C.2.1 ∧ C.2.1 ≤ 9999) ∧ (0 ≤ C.2.2 ∧ C.2.2 ≤ 9999) := by omega
  clear w2 w3 w4 w5 hco
  have e39 : ∀ l, am_gf (HP L B1 B2 fi ai aj l) 39 r 0 = .inl s := fun l => congrArg Sum.inl ((HP_fi _ _ _ _ _ _ _ (by omega)).trans r1)
  have e43 : ∀ l, am_fi (HP L B1 B2 fi ai aj l) 43 r = J.1 := fun l => (HP_fi _ _ _ _ _ _ _ (by omega)).trans r5
  have e46 : ∀ l, am_fi (HP L B1 B2 fi ai aj l) 46 r = C.1 := fun l => (HP_fi _ _ _ _ _ _ _ (by omega)).trans r7
  have e49 : ∀ l, am_fi (HP L B1 B2 fi ai aj l) 49 r = g := fun l => (HP_fi _ _ _ _ _ _ _ (by omega)).trans r10
  have g40 : ∀ l, am_gf (HP L B1 B2 fi ai aj l) 40 r 2 = .inr (.inr (r + 1)) := fun l => congrArg (fun z => Sum.inr (Sum.inr z)) hf3
  have g41 : ∀ l, am_gf (HP L B1 B2 fi ai aj l) 41 r 2 = .inr (.inr (r + 3)) := fun l => congrArg (fun z => Sum.inr (Sum.inr z)) hf4
  have g42 : ∀ l, am_gf (HP L B1 B2 fi ai aj l) 42 r 2 = .inr (.inr (r + 5)) := fun l => congrArg (fun z => Sum.inr (Sum.inr z)) hf5
  unfold prM at hl ⊢
  simp only [List.length_append, List.length_cons, List.length_nil] at hl
  refine am_W.of rfl rfl ?_
  refine am_W.cv 6 m_Pr_putToken rfl rfl rfl rfl ⟨trivial, HP_ok _ _ _ _ _ _ _⟩ (c_putToken (d + 1) L B1 B2 fi ai aj l 2 (by decide) (by show l.length + (3 + 1) ≤ 626; omega)) ?_
  rintro r1 h1 ⟨rfl, rfl⟩
  generalize hl1 : l ++ (am_str 2 ++ [32]) = l1
  have k1 : l1.length = l.length + 4 := by rw [← hl1, List.length_append]; rfl
  refine am_W.cv 6 m_Pr_putNumberToken rfl rfl rfl rfl ⟨⟨trivial, HP_ma _ _ _ _ hp⟩, HP_ok _ _ _ _ _ _ _⟩ (by rw [e39]; exact c_putNumberToken (d + 4) L B1 B2 fi ai aj l1 s (by omega) (by simp only [List.length_append, List.length_cons, List.length_nil]; omega)) ?_
  rintro r1 h1 ⟨rfl, rfl⟩
  generalize hl2 : l1 ++ (dgs s ++ [32]) = l2
  have k2 : l2.length = l1.length + ((dgs s).length + 1) := by rw [← hl2, List.length_append, List.length_append]; rfl
  refine am_W.cv 6 m_Pr_putToken rfl rfl rfl rfl ⟨trivial, HP_ok _ _ _ _ _ _ _⟩ (c_putToken (d + 1) L B1 B2 fi ai aj l2 3 (by decide) (by show l2.length + (1 + 1) ≤ 626; omega)) ?_
  rintro r1 h1 ⟨rfl, rfl⟩
  generalize hl3 : l2 ++ (am_str 3 ++ [32]) = l3
  have k3 : l3.length = l2.length + 2 := by rw [← hl3, List.length_append]; rfl
  refine am_W.cv 6 m_Pr_putPart rfl rfl rfl rfl ⟨⟨trivial, HP_ma _ _ _ _ hp⟩, HP_ok _ _ _ _ _ _ _⟩ (by rw [g40]; exact c_putPart (d + 3) L B1 B2 fi ai aj (r + 1) P1 l3 hpa r2 q1.1 q1.2.1 q1.2.2 (by omega)) ?_
  rintro r1 h1 ⟨rfl, rfl⟩
  generalize hl4 : l3 ++ prP P1 = l4
  have k4 : l4.length = l3.length + (prP P1).length := by rw [← hl4, List.length_append]
  refine am_W.cv 6 m_Pr_putPart rfl rfl rfl rfl ⟨⟨trivial, HP_ma _ _ _ _ hp⟩, HP_ok _ _ _ _ _ _ _⟩ (by rw [g41]; exact c_putPart (d + 3) L B1 B2 fi ai aj (r + 3) P2 l4 hpb r3 q2.1 q2.2.1 q2.2.2 (by omega)) ?_
  rintro r1 h1 ⟨rfl, rfl⟩
  generalize hl5 : l4 ++ prP P2 = l5
  have k5 : l5.length = l4.length + (prP P2).length := by rw [← hl5, List.length_append]
  refine am_W.cv 6 m_Pr_putPart rfl rfl rfl rfl ⟨⟨trivial, HP_ma _ _ _ _ hp⟩, HP_ok _ _ _ _ _ _ _⟩ (by rw [g42]; exact c_putPart (d + 3) L B1 B2 fi ai aj (r + 5) P3 l5 hpc r4 q3.1 q3.2.1 q3.2.2 (by omega)) ?_
  rintro r1 h1 ⟨rfl, rfl⟩
  generalize hl6 : l5 ++ prP P3 = l6
  have k6 : l6.length = l5.length + (prP P3).length := by rw [← hl6, List.length_append]
  have efin : ∀ l9 : List Int, l9 = l6 ++ prJ J ++ prT C ++ prG g → l9 ++ [46] ++ [10] = l ++ ([109, 97, 112, 32] ++ (dgs s ++ ([32] ++ ([58, 32] ++ (prP P1 ++ (prP P2 ++ (prP P3 ++ (prJ J ++ (prT C ++ (prG g ++ [46, 10])))))))))) := by
    intro l9 h9
    rw [h9, ← hl6, ← hl5, ← hl4, ← hl3, ← hl2, ← hl1]
    show l ++ [109, 97, 112, 32] ++ (dgs s ++ [32]) ++ [58, 32] ++ prP P1 ++ prP P2 ++ prP P3 ++ prJ J ++ prT C ++ prG g ++ [46] ++ [10] = _
    simp only [List.append_assoc, List.cons_append, List.nil_append]
  -- the end
  have h122 : ∀ l9 : List Int, l9 = l6 ++ prJ J ++ prT C ++ prG g → am_W (am_ev am_prog (d + 7)) T_Pr_putMapping (fun w h' => w = none ∧ h' = HP L B1 B2 fi ai aj (l ++ ([109, 97, 112, 32] ++ (dgs s ++ ([32] ++ ([58, 32] ++ (prP P1 ++ (prP P2 ++ (prP P3 ++ (prJ J ++ (prT C ++ (prG g ++ [46, 10]))))))))))) ) (122, [some (.inr (.inr 36)), some (.inr (.inr r))], [], HP L B1 B2 fi ai aj l9) := by
    intro l9 h9
    have k9 : l9.length = l6.length + (prJ J).length + (prT C).length + (prG g).length := by rw [h9, List.length_append, List.length_append, List.length_append]
    refine am_W.cv 6 m_Pr_put rfl rfl rfl rfl ⟨trivial, HP_ok _ _ _ _ _ _ _⟩ (c_Pr_put (d + 6) L B1 B2 fi ai aj l9 46 (by omega)) ?_
    rintro r1 h1 ⟨rfl, rfl⟩
    refine am_W.cv 6 m_Pr_put rfl rfl rfl rfl ⟨trivial, HP_ok _ _ _ _ _ _ _⟩ (c_Pr_put (d + 6) L B1 B2 fi ai aj (l9 ++ [46]) 10 (by rw [List.length_append, List.length_singleton]; omega)) ?_
    rintro r1 h1 ⟨rfl, rfl⟩
    rw [efin l9 h9]
    exact am_W.rt rfl rfl ⟨trivial, trivial⟩ ⟨rfl, rfl⟩
  have h100 : ∀ l8 : List Int, l8 = l6 ++ prJ J ++ prT C → am_W (am_ev am_prog (d + 7)) T_Pr_putMapping (fun w h' => w = none ∧ h' = HP L B1 B2 fi ai aj (l ++ ([109, 97, 112, 32] ++ (dgs s ++ ([32] ++ ([58, 32] ++ (prP P1 ++ (prP P2 ++ (prP P3 ++ (prJ J ++ (prT C ++ (prG g ++ [46, 10]))))))))))) ) (100, [some (.inr (.inr 36)), some (.inr (.inr r))], [], HP L B1 B2 fi ai aj l8) := by
    intro l8 h8
    have k8 : l8.length = l6.length + (prJ J).length + (prT C).length := by rw [h8, List.length_append, List.length_append]
    by_cases hg : g = -1
    · have e : prG g = [] := if_pos hg
      refine am_W.br rfl rfl ⟨⟨trivial, HP_ma _ _ _ _ hp⟩, by rw [e49]; exact ⟨by omega, by omega⟩, ⟨by omega, by omega⟩⟩ (fun c1 => h122 l8 (by rw [h8, e, List.append_nil])) (fun c1 => absurd hg (by rw [e49] at c1; exact c1))
    · have e : prG g = [105, 110, 32] ++ (dgs g ++ [32]) := if_neg hg
      rw [e] at hl
      simp only [List.length_append, List.length_cons, List.length_nil] at hl
      refine am_W.br rfl rfl ⟨⟨trivial, HP_ma _ _ _ _ hp⟩, by rw [e49]; exact ⟨by omega, by omega⟩, ⟨by omega, by omega⟩⟩ (fun c1 => absurd (by rw [e49] at c1; exact c1) hg) (fun c1 => ?_)
      refine am_W.cv 6 m_Pr_putToken rfl rfl rfl rfl ⟨trivial, HP_ok _ _ _ _ _ _ _⟩ (c_putToken (d + 1) L B1 B2 fi ai aj l8 8 (by decide) (by show l8.length + (2 + 1) ≤ 626; omega)) ?_
      rintro r1 h1 ⟨rfl, rfl⟩
      refine am_W.cv 6 m_Pr_putNumberToken rfl rfl rfl rfl ⟨⟨trivial, HP_ma _ _ _ _ hp⟩, HP_ok _ _ _ _ _ _ _⟩ (by rw [show am_gf (HP L B1 B2 fi ai aj (l8 ++ (am_str 8 ++ [32]))) 49 r 0 = .inl g from congrArg Sum.inl (e49 _)]; exact c_putNumberToken (d + 4) L B1 B2 fi ai aj (l8 ++ (am_str 8 ++ [32])) g (by omega) (by show (l8 ++ [105, 110, 32]).length + (dgs g ++ [32]).length ≤ 626; simp only [List.length_append, List.length_cons, List.length_nil]; omega)) ?_
      rintro r1 h1 ⟨rfl, rfl⟩
      refine h122 _ ?_
      rw [h8, e]
      show l6 ++ prJ J ++ prT C ++ [105, 110, 32] ++ (dgs g ++ [32]) = _
      simp only [List.append_assoc]
  have h87 : ∀ l7 : List Int, l7 = l6 ++ prJ J → am_W (am_ev am_prog (d + 7)) T_Pr_putMapping (fun w h' => w = none ∧ h' = HP L B1 B2 fi ai aj (l ++ ([109, 97, 112, 32] ++ (dgs s ++ ([32] ++ ([58, 32] ++ (prP P1 ++ (prP P2 ++ (prP P3 ++ (prJ J ++ (prT C ++ (prG g ++ [46, 10]))))))))))) ) (87, [some (.inr (.inr 36)), some (.inr (.inr r))], [], HP L B1 B2 fi ai aj l7) := by
    intro l7 h7
    have k7 : l7.length = l6.length + (prJ J).length := by rw [h7, List.length_append]
    by_cases hc : C.1 = -1
    · have e : prT C = [] := if_pos hc
      refine am_W.br rfl rfl ⟨⟨trivial, HP_ma _ _ _ _ hp⟩, by rw [e46]; exact hCR, ⟨by omega, by omega⟩⟩ (fun c1 => h100 l7 (by rw [h7, e, List.append_nil])) (fun c1 => absurd hc (by rw [e46] at c1; exact c1))
    · refine am_W.br rfl rfl ⟨⟨trivial, HP_ma _ _ _ _ hp⟩, by rw [e46]; exact hCR, ⟨by omega, by omega⟩⟩ (fun c1 => absurd (by rw [e46] at c1; exact c1) hc) (fun c1 => ?_)
      refine am_W.cv 6 m_Pr_putCondition rfl rfl rfl rfl ⟨trivial, HP_ok _ _ _ _ _ _ _⟩ (c_putCondition d L B1 B2 fi ai aj r C l7 hp r7 (r8 hc) (r9 hc) hc hCR (hC2 hc).1 (hC2 hc).2 (by omega)) ?_
      rintro r1 h1 ⟨rfl, rfl⟩
      exact h100 _ (by rw [h7])
  refine am_W.cv 8 m_Ma_isJoin rfl rfl rfl rfl ⟨trivial, HP_ma _ _ _ _ hp⟩ (c_isJoin (d + 6) L B1 B2 fi ai aj r (HP L B1 B2 fi ai aj l6) (HP_ma _ _ _ _ hp) (by rw [e43]; exact hJ.1)) ?_
  rintro r1 h1 ⟨rfl, rfl⟩
  rw [e43]
  by_cases hj : J.1 = -1
  · rw [if_pos hj]
    have e : prJ J = [] := if_pos hj
    exact am_W.br rfl rfl ⟨trivial, ⟨by omega, by omega⟩⟩ (fun c1 => h87 l6 (by rw [e, List.append_nil])) (fun c1 => absurd rfl c1)
  · rw [if_neg hj]
    obtain ⟨j1, j2, j3⟩ := hJ.2 hj
    obtain ⟨r61, r62⟩ := r6 hj
    have e44 : ∀ l, am_gf (HP L B1 B2 fi ai aj l) 44 r 0 = .inl J.2.1 := fun l => congrArg Sum.inl ((HP_fi _ _ _ _ _ _ _ (by omega)).trans r61)
    have e45 : ∀ l, am_gf (HP L B1 B2 fi ai aj l) 45 r 0 = .inl J.2.2 := fun l => congrArg Sum.inl ((HP_fi _ _ _ _ _ _ _ (by omega)).trans r62)
    have g43 : ∀ l, am_gf (HP L B1 B2 fi ai aj l) 43 r 0 = .inl J.1 := fun l => congrArg Sum.inl (e43 l)
    have e : prJ J = [111, 102, 32] ++ (dgs J.1 ++ ([32] ++ ([98, 121, 32] ++ (dgs J.2.1 ++ ([32] ++ (dgs J.2.2 ++ [32])))))) := if_neg hj
    have hl' := hl
    rw [e] at hl'
    simp only [List.length_append, List.length_cons, List.length_nil] at hl'
    refine am_W.br rfl rfl ⟨trivial, ⟨by omega, by omega⟩⟩ (fun c1 => absurd c1 (by decide)) (fun c1 => ?_)
    refine am_W.cv 6 m_Pr_putToken rfl rfl rfl rfl ⟨trivial, HP_ok _ _ _ _ _ _ _⟩ (c_putToken (d + 1) L B1 B2 fi ai aj l6 4 (by decide) (by show l6.length + (2 + 1) ≤ 626; omega)) ?_
    rintro r1 h1 ⟨rfl, rfl⟩
    generalize hm1 : l6 ++ (am_str 4 ++ [32]) = m1
    have n1 : m1.length = l6.length + 3 := by rw [← hm1, List.length_append]; rfl
    refine am_W.cv 6 m_Pr_putNumberToken rfl rfl rfl rfl ⟨⟨trivial, HP_ma _ _ _ _ hp⟩, HP_ok _ _ _ _ _ _ _⟩ (by rw [g43]; exact c_putNumberToken (d + 4) L B1 B2 fi ai aj m1 J.1 j1 (by simp only [List.length_append, List.length_cons, List.length_nil]; omega)) ?_
    rintro r1 h1 ⟨rfl, rfl⟩
    generalize hm2 : m1 ++ (dgs J.1 ++ [32]) = m2
    have n2 : m2.length = m1.length + ((dgs J.1).length + 1) := by rw [← hm2, List.length_append, List.length_append]; rfl
    refine am_W.cv 6 m_Pr_putToken rfl rfl rfl rfl ⟨trivial, HP_ok _ _ _ _ _ _ _⟩ (c_putToken (d + 1) L B1 B2 fi ai aj m2 5 (by decide) (by show m2.length + (2 + 1) ≤ 626; omega)) ?_
    rintro r1 h1 ⟨rfl, rfl⟩
    generalize hm3 : m2 ++ (am_str 5 ++ [32]) = m3
    have n3 : m3.length = m2.length + 3 := by rw [← hm3, List.length_append]; rfl
    refine am_W.cv 6 m_Pr_putNumberToken rfl rfl rfl rfl ⟨⟨trivial, HP_ma _ _ _ _ hp⟩, HP_ok _ _ _ _ _ _ _⟩ (by rw [e44]; exact c_putNumberToken (d + 4) L B1 B2 fi ai aj m3 J.2.1 j2 (by simp only [List.length_append, List.length_cons, List.length_nil]; omega)) ?_
    rintro r1 h1 ⟨rfl, rfl⟩
    generalize hm4 : m3 ++ (dgs J.2.1 ++ [32]) = m4
    have n4 : m4.length = m3.length + ((dgs J.2.1).length + 1) := by rw [← hm4, List.length_append, List.length_append]; rfl
    refine am_W.cv 6 m_Pr_putNumberToken rfl rfl rfl rfl ⟨⟨trivial, HP_ma _ _ _ _ hp⟩, HP_ok _ _ _ _ _ _ _⟩ (by rw [e45]; exact c_putNumberToken (d + 4) L B1 B2 fi ai aj m4 J.2.2 j3 (by simp only [List.length_append, List.length_cons, List.length_nil]; omega)) ?_
    rintro r1 h1 ⟨rfl, rfl⟩
    refine h87 _ ?_
    rw [e, ← hm4, ← hm3, ← hm2, ← hm1]
    show l6 ++ [111, 102, 32] ++ (dgs J.1 ++ [32]) ++ [98, 121, 32] ++ (dgs J.2.1 ++ [32]) ++ (dgs J.2.2 ++ [32]) = _
    simp only [List.append_assoc, List.cons_append, List.nil_append]
