-- printing by the class: parts, conditions, mappings
set_option maxHeartbeats 400000 in
set_option maxRecDepth 100000 in
theorem c_putPart (d L B1 B2 : Nat) (fi : Nat → Nat → Int) (ai aj : Nat → Int → Int) (p : Nat) (x : PT) (l : List Int) (hp : PartAt L B1 B2 p) (hx : RepP fi ai p x) (hk : x.1 = 0 ∨ x.1 = 1 ∨ x.1 = 2) (h0 : x.1 = 0 → x.2.2.length ≤ 30 ∧ ∀ q ∈ x.2.2, okC 4 q) (h1 : x.1 ≠ 0 → 0 ≤ x.2.1 ∧ x.2.1 ≤ 9999) (hl : l.length + (prP x).length ≤ 626) : am_M am_prog (d + 4) m_Pr_putPart [.inr (.inr 36), .inr (.inr p)] (HP L B1 B2 fi ai aj l) (fun w h' => w = none ∧ h' = HP L B1 B2 fi ai aj (l ++ prP x)) := by
  obtain ⟨r1, r2, r3⟩ := hx
  have p0 := hp.1
  have p1 := hp.2.1
  have e50 : ∀ l, am_fi (HP L B1 B2 fi ai aj l) 50 p = x.1 := fun l => by rw [HP_fi _ _ _ _ _ _ _ (by omega)]; exact r1
  have e51 : x.1 ≠ 0 → ∀ l, am_fi (HP L B1 B2 fi ai aj l) 51 p = x.2.1 := fun q l => by rw [HP_fi _ _ _ _ _ _ _ (by omega)]; exact r2 q
  refine am_W.of rfl rfl ?_
  unfold prP at hl ⊢
  refine am_W.br rfl rfl ⟨⟨trivial, HP_pa _ _ _ _ hp⟩, by rw [e50]; exact ⟨by omega, by omega⟩⟩ (fun c1 => ?_) (fun c1 => ?_)
  · rw [e50] at c1
    rw [if_neg c1] at hl ⊢
    rw [List.length_append, List.length_singleton] at hl
    have hl2 : l.length + (1 + (dgs x.2.1 ++ [32]).length) ≤ 626 := hl
    have hnum : ∀ b : Int, am_W (am_ev am_prog (d + 3)) T_Pr_putPart (fun w h' => w = none ∧ h' = HP L B1 B2 fi ai aj (l ++ ([b] ++ (dgs x.2.1 ++ [32])))) (31, [some (.inr (.inr 36)), some (.inr (.inr p))], [.inl b, .inr (.inr 36)], HP L B1 B2 fi ai aj l) := by
      intro b
      refine am_W.cv 6 m_Pr_put rfl rfl rfl rfl ⟨trivial, HP_ok _ _ _ _ _ _ _⟩ (c_Pr_put (d + 2) L B1 B2 fi ai aj l b (by omega)) ?_
      rintro r1 h1 ⟨rfl, rfl⟩
      refine am_W.cv 6 m_Pr_putNumberToken rfl rfl rfl rfl ⟨⟨trivial, HP_pa _ _ _ _ hp⟩, HP_ok _ _ _ _ _ _ _⟩ (by rw [show am_gf (HP L B1 B2 fi ai aj (l ++ [b])) 51 p 0 = .inl x.2.1 from congrArg Sum.inl (e51 c1 _)]; exact c_putNumberToken d L B1 B2 fi ai aj (l ++ [b]) x.2.1 (h1 c1) (by rw [List.length_append, List.length_singleton]; omega)) ?_
      rintro r1 h1 ⟨rfl, rfl⟩
      rw [List.append_assoc]
      exact am_W.rt rfl rfl ⟨trivial, trivial⟩ ⟨rfl, rfl⟩
    refine am_W.br rfl rfl ⟨⟨trivial, HP_pa _ _ _ _ hp⟩, by rw [e50]; exact ⟨by omega, by omega⟩, ⟨by omega, by omega⟩⟩ (fun c2 => ?_) (fun c2 => ?_)
    · rw [e50] at c2
      rw [if_neg c2]
      exact am_W.gp 31 rfl trivial (hnum 36)
    · rw [e50] at c2
      rw [if_pos (by omega)]
      exact am_W.gp 31 rfl trivial (hnum 95)
  · rw [e50] at c1
    have c1' : x.1 = 0 := by omega
    rw [if_pos c1'] at hl ⊢
    rw [List.length_append, List.length_singleton] at hl
    have hr3 := r3 c1'
    obtain ⟨h30, hok⟩ := h0 c1'
    have htm : am_M am_prog (d + 3) m_Pr_putTemplate [.inr (.inr 36), .inr (.inr p)] (HP L B1 B2 fi ai aj l) (fun w h' => w = none ∧ h' = HP L B1 B2 fi ai aj (l ++ ([34] ++ (prL x.2.2 ++ [34, 32])))) := by
      refine am_W.of rfl rfl ?_
      refine am_W.cv 6 m_Pr_put rfl rfl rfl rfl ⟨trivial, HP_ok _ _ _ _ _ _ _⟩ (c_Pr_put (d + 1) L B1 B2 fi ai aj l 34 (by omega)) ?_
      rintro r1 h1 ⟨rfl, rfl⟩
      have hw := l_putTemplate d L B1 B2 fi ai aj p hp x.2.2 (l ++ [34]) hr3.1 h30 hr3.2 hok (by rw [List.length_append, List.length_singleton]; omega) x.2.2 [] 0 none rfl rfl
      rw [show prL [] = [] from rfl, List.append_nil, List.append_assoc] at hw
      exact am_W.gp 8 rfl trivial hw
    refine am_W.cv 6 m_Pr_putTemplate rfl rfl rfl rfl ⟨trivial, HP_ok _ _ _ _ _ _ _⟩ htm ?_
    rintro r1 h1 ⟨rfl, rfl⟩
    exact am_W.rt rfl rfl ⟨trivial, trivial⟩ ⟨rfl, rfl⟩
set_option maxHeartbeats 400000 in
set_option maxRecDepth 100000 in
theorem c_putCondition (d L B1 B2 : Nat) (fi : Nat → Nat → Int) (ai aj : Nat → Int → Int) (r : Nat) (c : JT) (l : List Int) (hp : MapAt L B1 B2 r) (h46 : fi 46 r = c.1) (h47 : fi 47 r = c.2.1) (h48 : c.1 ≠ 1853189228 → fi 48 r = c.2.2) (hn : ¬ c.1 = -1) (hR : am_R c.1) (hc : 0 ≤ c.2.1 ∧ c.2.1 ≤ 9999) (hm : 0 ≤ c.2.2 ∧ c.2.2 ≤ 9999) (hl : l.length + (prT c).length ≤ 626) : am_M am_prog (d + 7) m_Pr_putCondition [.inr (.inr 36), .inr (.inr r)] (HP L B1 B2 fi ai aj l) (fun w h' => w = none ∧ h' = HP L B1 B2 fi ai aj (l ++ prT c)) := by
  have p0 := hp.1
  have e46 : ∀ l, am_fi (HP L B1 B2 fi ai aj l) 46 r = c.1 := fun l => by rw [HP_fi _ _ _ _ _ _ _ (by omega)]; exact h46
  have e47 : ∀ l, am_fi (HP L B1 B2 fi ai aj l) 47 r = c.2.1 := fun l => by rw [HP_fi _ _ _ _ _ _ _ (by omega)]; exact h47
  have e48 : c.1 ≠ 1853189228 → ∀ l, am_fi (HP L B1 B2 fi ai aj l) 48 r = c.2.2 := fun q l => by rw [HP_fi _ _ _ _ _ _ _ (by omega)]; exact h48 q
  refine am_W.of rfl rfl ?_
  unfold prT at hl ⊢
  rw [if_neg hn] at hl ⊢
  simp only [List.length_append, List.length_cons, List.length_nil] at hl
  refine am_W.cv 6 m_Pr_putToken rfl rfl rfl rfl ⟨trivial, HP_ok _ _ _ _ _ _ _⟩ (c_putToken d L B1 B2 fi ai aj l 6 (by decide) (by show l.length + (2 + 1) ≤ 626; omega)) ?_
  rintro r1 h1 ⟨rfl, rfl⟩
  show am_W _ _ _ (_, _, _, HP L B1 B2 fi ai aj (l ++ [105, 102, 32]))
  have hmid : ∀ l1 : List Int, l1.length + ((1 : Nat) + (dgs c.2.1).length + 1 + (if c.1 = 1853189228 then ([] : List Int) else [c.1, 32] ++ (dgs c.2.2 ++ [32])).length) ≤ 626 → am_W (am_ev am_prog (d + 6)) T_Pr_putCondition (fun w h' => w = none ∧ h' = HP L B1 B2 fi ai aj (l1 ++ ([36] ++ (dgs c.2.1 ++ ([32] ++ (if c.1 = 1853189228 then [] else [c.1, 32] ++ (dgs c.2.2 ++ [32]))))))) (21, [some (.inr (.inr 36)), some (.inr (.inr r))], [], HP L B1 B2 fi ai aj l1) := by
    intro l1 h1
    refine am_W.cv 6 m_Pr_put rfl rfl rfl rfl ⟨trivial, HP_ok _ _ _ _ _ _ _⟩ (c_Pr_put (d + 5) L B1 B2 fi ai aj l1 36 (by omega)) ?_
    rintro r1 h1 ⟨rfl, rfl⟩
    refine am_W.cv 6 m_Pr_putNumberToken rfl rfl rfl rfl ⟨⟨trivial, HP_ma _ _ _ _ hp⟩, HP_ok _ _ _ _ _ _ _⟩ (by rw [show am_gf (HP L B1 B2 fi ai aj (l1 ++ [36])) 47 r 0 = .inl c.2.1 from congrArg Sum.inl (e47 _)]; exact c_putNumberToken (d + 3) L B1 B2 fi ai aj (l1 ++ [36]) c.2.1 hc (by simp only [List.length_append, List.length_cons, List.length_nil]; omega)) ?_
    rintro r1 h1 ⟨rfl, rfl⟩
    by_cases hz : c.1 = 1853189228
    · rw [if_pos hz] at h1 ⊢
      refine am_W.br rfl rfl ⟨⟨trivial, HP_ma _ _ _ _ hp⟩, by rw [e46]; exact hR, ⟨by omega, by omega⟩⟩ (fun c1 => ?_) (fun c1 => absurd hz (by rw [e46] at c1; exact c1))
      refine am_W.rt rfl rfl ⟨trivial, trivial⟩ ⟨rfl, ?_⟩
      simp only [List.append_assoc, List.append_nil]
    · rw [if_neg hz] at h1 ⊢
      simp only [List.length_append, List.length_cons, List.length_nil] at h1
      refine am_W.br rfl rfl ⟨⟨trivial, HP_ma _ _ _ _ hp⟩, by rw [e46]; exact hR, ⟨by omega, by omega⟩⟩ (fun c1 => absurd (by rw [e46] at c1; exact c1) hz) (fun c1 => ?_)
      refine am_W.cv 6 m_Pr_put rfl rfl rfl rfl ⟨⟨trivial, HP_ma _ _ _ _ hp⟩, HP_ok _ _ _ _ _ _ _⟩ (by rw [show am_gf (HP L B1 B2 fi ai aj (l1 ++ [36] ++ (dgs c.2.1 ++ [32]))) 46 r 0 = .inl c.1 from congrArg Sum.inl (e46 _)]; exact c_Pr_put (d + 5) L B1 B2 fi ai aj (l1 ++ [36] ++ (dgs c.2.1 ++ [32])) c.1 (by simp only [List.length_append, List.length_cons, List.length_nil]; omega)) ?_
      rintro r1 h1 ⟨rfl, rfl⟩
      refine am_W.cv 6 m_Pr_put rfl rfl rfl rfl ⟨trivial, HP_ok _ _ _ _ _ _ _⟩ (c_Pr_put (d + 5) L B1 B2 fi ai aj (l1 ++ [36] ++ (dgs c.2.1 ++ [32]) ++ [c.1]) 32 (by simp only [List.length_append, List.length_cons, List.length_nil]; omega)) ?_
      rintro r1 h1 ⟨rfl, rfl⟩
      refine am_W.cv 6 m_Pr_putNumberToken rfl rfl rfl rfl ⟨⟨trivial, HP_ma _ _ _ _ hp⟩, HP_ok _ _ _ _ _ _ _⟩ (by rw [show am_gf (HP L B1 B2 fi ai aj (l1 ++ [36] ++ (dgs c.2.1 ++ [32]) ++ [c.1] ++ [32])) 48 r 0 = .inl c.2.2 from congrArg Sum.inl (e48 hz _)]; exact c_putNumberToken (d + 3) L B1 B2 fi ai aj (l1 ++ [36] ++ (dgs c.2.1 ++ [32]) ++ [c.1] ++ [32]) c.2.2 hm (by simp only [List.length_append, List.length_cons, List.length_nil]; omega)) ?_
      rintro r1 h1 ⟨rfl, rfl⟩
      refine am_W.rt rfl rfl ⟨trivial, trivial⟩ ⟨rfl, ?_⟩
      simp only [List.append_assoc, List.cons_append, List.nil_append]
  by_cases hz : c.1 = 1853189228
  · have h1 : (if c.1 = 1853189228 then ([] : List Int) else [c.1, 32] ++ (dgs c.2.2 ++ [32])).length = 0 := by rw [if_pos hz]; rfl
    have hm2 := hmid (l ++ [105, 102, 32] ++ [110, 117, 108, 108, 32])
    rw [h1] at hm2
    rw [show (if c.1 = 1853189228 then ([110, 117, 108, 108, 32] : List Int) else []) = [110, 117, 108, 108, 32] from if_pos hz] at hl ⊢
    simp only [List.length_append, List.length_cons, List.length_nil] at hl hm2
    refine am_W.br rfl rfl ⟨⟨trivial, HP_ma _ _ _ _ hp⟩, by rw [e46]; exact hR, ⟨by omega, by omega⟩⟩ (fun c1 => absurd hz (by rw [e46] at c1; exact c1)) (fun c1 => ?_)
    refine am_W.cv 6 m_Pr_putToken rfl rfl rfl rfl ⟨trivial, HP_ok _ _ _ _ _ _ _⟩ (c_putToken d L B1 B2 fi ai aj (l ++ [105, 102, 32]) 7 (by decide) (by show (l ++ [105, 102, 32]).length + (4 + 1) ≤ 626; simp only [List.length_append, List.length_cons, List.length_nil]; omega)) ?_
    rintro r1 h1 ⟨rfl, rfl⟩
    refine (hm2 (by omega)).mono ?_
    rintro w h' ⟨rfl, rfl⟩
    refine ⟨rfl, ?_⟩
    simp only [List.append_assoc]
  · have hm2 := hmid (l ++ [105, 102, 32])
    rw [show (if c.1 = 1853189228 then ([110, 117, 108, 108, 32] : List Int) else []) = [] from if_neg hz] at hl ⊢
    rw [List.nil_append]
    simp only [List.length_append, List.length_cons, List.length_nil] at hl hm2
    refine am_W.br rfl rfl ⟨⟨trivial, HP_ma _ _ _ _ hp⟩, by rw [e46]; exact hR, ⟨by omega, by omega⟩⟩ (fun c1 => ?_) (fun c1 => absurd (by rw [e46] at c1; omega) hz)
    refine (hm2 (by omega)).mono ?_
    rintro w h' ⟨rfl, rfl⟩
    refine ⟨rfl, ?_⟩
    simp only [List.append_assoc]
