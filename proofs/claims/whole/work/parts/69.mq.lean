-- print of the reference
theorem HQ_6 {L B1 B2 : Nat} (fi : Nat → Nat → Int) (ai aj : Nat → Int → Int) (l : List Int) {r : Nat} {i : Int} (e : Nat.ble 16 r = true) (e1 : Nat.blt r 170 = true) (e2 : CC L r = (1000, 6)) (h : 0 ≤ i ∧ i < 6) : am_okr (HQ L B1 B2 fi ai aj l) r 1000 i := okrI e e1 e2 rfl h.1 (by omega)
set_option maxHeartbeats 400000 in
set_option maxRecDepth 100000 in
theorem c_sayCondition (d L B1 B2 : Nat) (fi : Nat → Nat → Int) (ai aj : Nat → Int → Int) (m : Int) (c : JT) (l : List Int) (hm : 0 ≤ m ∧ m < 6) (h1 : ai 141 m = sg c.1) (h2 : c.1 ≠ -1 → ai 142 m = c.2.1) (h3 : c.1 ≠ -1 → c.1 ≠ 1853189228 → ai 143 m = c.2.2) (hw : c.1 = -1 ∨ ((c.1 = 1853189228 ∨ c.1 = 61 ∨ c.1 = 60 ∨ c.1 = 62) ∧ (0 ≤ c.2.1 ∧ c.2.1 ≤ 9999) ∧ (0 ≤ c.2.2 ∧ c.2.2 ≤ 9999))) (hl : l.length + 40 ≤ 5000) : am_M am_prog (d + 4) m_Mo_sayCondition [.inr (.inr 126), .inl m] (HQ L B1 B2 fi ai aj l) (fun w h' => w = none ∧ h' = HQ L B1 B2 fi ai aj (l ++ prT c)) := by
  have s1 : ∀ l, am_ai (HQ L B1 B2 fi ai aj l) (am_fr (HQ L B1 B2 fi ai aj l) 71 126) m = sg c.1 := fun l => h1
  have s2 : c.1 ≠ -1 → ∀ l, am_ai (HQ L B1 B2 fi ai aj l) (am_fr (HQ L B1 B2 fi ai aj l) 72 126) m = c.2.1 := fun q l => h2 q
  have s3 : c.1 ≠ -1 → c.1 ≠ 1853189228 → ∀ l, am_ai (HQ L B1 B2 fi ai aj l) (am_fr (HQ L B1 B2 fi ai aj l) 73 126) m = c.2.2 := fun q q2 l => h3 q q2
  have ok1 : ∀ l, am_okr (HQ L B1 B2 fi ai aj l) (am_fr (HQ L B1 B2 fi ai aj l) 71 126) 1000 m := fun l => HQ_6 fi ai aj l rfl rfl rfl hm
  have ok2 : ∀ l, am_okr (HQ L B1 B2 fi ai aj l) (am_fr (HQ L B1 B2 fi ai aj l) 72 126) 1000 m := fun l => HQ_6 fi ai aj l rfl rfl rfl hm
  have ok3 : ∀ l, am_okr (HQ L B1 B2 fi ai aj l) (am_fr (HQ L B1 B2 fi ai aj l) 73 126) 1000 m := fun l => HQ_6 fi ai aj l rfl rfl rfl hm
  refine am_W.of rfl rfl ?_
  unfold prT
  by_cases hn : c.1 = -1
  · have es : sg c.1 = 0 := if_pos hn
    rw [if_pos hn, List.append_nil]
    refine am_W.br rfl rfl ⟨⟨⟨trivial, HQ_ok _ _ _ _ _ _ _⟩, ok1 _⟩, by rw [s1, es]; exact ⟨by omega, by omega⟩⟩ (fun c1 => absurd (by rw [s1]; exact es) c1) (fun c1 => ?_)
    exact am_W.rt rfl rfl ⟨trivial, trivial⟩ ⟨rfl, rfl⟩
  · rw [if_neg hn]
    obtain ⟨hw1, hw2, hw3⟩ := hw.resolve_left hn
    have h14 := dgs_4 c.2.1
    have h24 := dgs_4 c.2.2
    have es : (c.1 = 1853189228 ∧ sg c.1 = 1) ∨ (¬ c.1 = 1853189228 ∧ sg c.1 = c.1 ∧ 60 ≤ c.1 ∧ c.1 ≤ 62) := by
      unfold sg
      rw [if_neg hn]
      by_cases hz : c.1 = 1853189228
      · rw [if_pos hz]
        exact Or.inl ⟨hz, rfl⟩
      · rw [if_neg hz]
        exact Or.inr ⟨hz, rfl, by omega, by omega⟩
    have hsR : am_R (sg c.1) ∧ sg c.1 ≠ 0 := by
      rcases es with ⟨_, h⟩ | ⟨_, h, h5, h6⟩
      · rw [h]; exact ⟨⟨by omega, by omega⟩, by decide⟩
      · rw [h]; exact ⟨⟨by omega, by omega⟩, by omega⟩
    refine am_W.br rfl rfl ⟨⟨⟨trivial, HQ_ok _ _ _ _ _ _ _⟩, ok1 _⟩, by rw [s1]; exact hsR.1⟩ (fun c1 => ?_) (fun c1 => absurd (by rw [s1]; exact hsR.2) c1)
    refine am_W.cv 10 m_Mo_sayWord rfl rfl rfl rfl ⟨trivial, HQ_ok _ _ _ _ _ _ _⟩ (c_sayWord (d + 1) L B1 B2 fi ai aj l 105 102 0 0 (by omega) (by omega) (by omega) (by omega) (by omega)) ?_
    rintro r1 h1 ⟨rfl, rfl⟩
    show am_W _ _ _ (_, _, _, HQ L B1 B2 fi ai aj (l ++ [105, 102, 32]))
    have hmid : ∀ l1 : List Int, l1.length + 20 ≤ 5000 → am_W (am_ev am_prog (d + 3)) T_Mo_sayCondition (fun w h' => w = none ∧ h' = HQ L B1 B2 fi ai aj (l1 ++ ([36] ++ (dgs c.2.1 ++ ([32] ++ (if c.1 = 1853189228 then [] else [c.1, 32] ++ (dgs c.2.2 ++ [32]))))))) (42, [some (.inr (.inr 126)), some (.inl m)], [], HQ L B1 B2 fi ai aj l1) := by
      intro l1 hl1
      refine am_W.cv 10 m_Mo_say rfl rfl rfl rfl ⟨trivial, HQ_ok _ _ _ _ _ _ _⟩ (c_say (d + 2) L B1 B2 fi ai aj l1 36 (by omega) (by omega)) ?_
      rintro r1 h1 ⟨rfl, rfl⟩
      refine am_W.cv 10 m_Mo_sayNumber rfl rfl rfl rfl ⟨⟨⟨trivial, HQ_ok _ _ _ _ _ _ _⟩, ok2 _⟩, HQ_ok _ _ _ _ _ _ _⟩ (by rw [s2 hn]; exact c_sayNumber d L B1 B2 fi ai aj (l1 ++ [36]) c.2.1 hw2 (by rw [List.length_append, List.length_singleton]; omega)) ?_
      rintro r1 h1 ⟨rfl, rfl⟩
      rcases es with ⟨hz, he⟩ | ⟨hz, he, h5, h6⟩
      · rw [if_pos hz]
        refine am_W.br rfl rfl ⟨⟨⟨trivial, HQ_ok _ _ _ _ _ _ _⟩, ok1 _⟩, by rw [s1]; exact hsR.1, ⟨by omega, by omega⟩⟩ (fun c2 => ?_) (fun c2 => absurd (by rw [s1, he]; exact Int.le_refl 1) c2)
        refine am_W.rt rfl rfl ⟨trivial, trivial⟩ ⟨rfl, ?_⟩
        simp only [List.append_assoc, List.append_nil]
      · rw [if_neg hz]
        refine am_W.br rfl rfl ⟨⟨⟨trivial, HQ_ok _ _ _ _ _ _ _⟩, ok1 _⟩, by rw [s1]; exact hsR.1, ⟨by omega, by omega⟩⟩ (fun c2 => absurd c2 (by rw [s1, he]; omega)) (fun c2 => ?_)
        refine am_W.cv 10 m_Mo_say rfl rfl rfl rfl ⟨⟨⟨trivial, HQ_ok _ _ _ _ _ _ _⟩, ok1 _⟩, HQ_ok _ _ _ _ _ _ _⟩ (by rw [s1, he]; exact c_say (d + 2) L B1 B2 fi ai aj (l1 ++ [36] ++ (dgs c.2.1 ++ [32])) c.1 (by simp only [List.length_append, List.length_cons, List.length_nil]; omega) (by omega)) ?_
        rintro r1 h1 ⟨rfl, rfl⟩
        refine am_W.cv 10 m_Mo_say rfl rfl rfl rfl ⟨trivial, HQ_ok _ _ _ _ _ _ _⟩ (c_say (d + 2) L B1 B2 fi ai aj (l1 ++ [36] ++ (dgs c.2.1 ++ [32]) ++ [c.1]) 32 (by simp only [List.length_append, List.length_cons, List.length_nil]; omega) (by omega)) ?_
        rintro r1 h1 ⟨rfl, rfl⟩
        refine am_W.cv 10 m_Mo_sayNumber rfl rfl rfl rfl ⟨⟨⟨trivial, HQ_ok _ _ _ _ _ _ _⟩, ok3 _⟩, HQ_ok _ _ _ _ _ _ _⟩ (by rw [s3 hn hz]; exact c_sayNumber d L B1 B2 fi ai aj (l1 ++ [36] ++ (dgs c.2.1 ++ [32]) ++ [c.1] ++ [32]) c.2.2 hw3 (by simp only [List.length_append, List.length_cons, List.length_nil]; omega)) ?_
        rintro r1 h1 ⟨rfl, rfl⟩
        refine am_W.rt rfl rfl ⟨trivial, trivial⟩ ⟨rfl, ?_⟩
        simp only [List.append_assoc, List.cons_append, List.nil_append]
    rcases id es with ⟨hz, he⟩ | ⟨hz, he, h5, h6⟩
    · rw [show (if c.1 = 1853189228 then ([110, 117, 108, 108, 32] : List Int) else []) = [110, 117, 108, 108, 32] from if_pos hz]
      refine am_W.br rfl rfl ⟨⟨⟨trivial, HQ_ok _ _ _ _ _ _ _⟩, ok1 _⟩, by rw [s1]; exact hsR.1, ⟨by omega, by omega⟩⟩ (fun c2 => absurd (by rw [s1]; exact he) c2) (fun c2 => ?_)
      refine am_W.cv 10 m_Mo_sayWord rfl rfl rfl rfl ⟨trivial, HQ_ok _ _ _ _ _ _ _⟩ (c_sayWord (d + 1) L B1 B2 fi ai aj (l ++ [105, 102, 32]) 110 117 108 108 (by simp only [List.length_append, List.length_cons, List.length_nil]; omega) (by omega) (by omega) (by omega) (by omega)) ?_
      rintro r1 h1 ⟨rfl, rfl⟩
      refine (hmid (l ++ [105, 102, 32] ++ [110, 117, 108, 108, 32]) (by simp only [List.length_append, List.length_cons, List.length_nil]; omega)).mono ?_
      rintro w h' ⟨rfl, rfl⟩
      refine ⟨rfl, ?_⟩
      simp only [List.append_assoc]
    · rw [show (if c.1 = 1853189228 then ([110, 117, 108, 108, 32] : List Int) else []) = [] from if_neg hz]
      refine am_W.br rfl rfl ⟨⟨⟨trivial, HQ_ok _ _ _ _ _ _ _⟩, ok1 _⟩, by rw [s1]; exact hsR.1, ⟨by omega, by omega⟩⟩ (fun c2 => ?_) (fun c2 => absurd (by rw [s1, he]; omega) c2)
      refine (hmid (l ++ [105, 102, 32]) (by simp only [List.length_append, List.length_cons, List.length_nil]; omega)).mono ?_
      rintro w h' ⟨rfl, rfl⟩
      refine ⟨rfl, ?_⟩
      simp only [List.append_assoc, List.nil_append]
