-- print of the reference
theorem HQ_6 {L B1 B2 : Nat} (fi : Nat → Nat → Int) (ai aj : Nat → Int → Int) (l : List Int) {r : Nat} {i : Int} (e : Nat.ble 16 r = true) (e1 : Nat.blt r 170 = true) (e2 : CC L r = (1000, 6)) (h : 0 ≤ i ∧ i < 6) : am_okr (HQ L B1 B2 fi ai aj l) r 1000 i := okrI e e1 e2 rfl h.1 (by omega)
set_option maxHeartbeats 400000 in
set_option maxRecDepth 100000 in
theorem c_sayCondition (d L B1 B2 : Nat) (fi : Nat → Nat → Int) (ai aj : Nat → Int → Int) (m : Int) (c : JT) (l : List Int) (hm : 0 ≤ m ∧ m < 6) (h1 : ai 141 m = sg c.1) (h2 : c.1 ≠ -1 → ai 142 m = c.2.1) (h3 : c.1 ≠ -1 → c.1 ≠ 1853189228 → ai 143 m = c.2.2) (hw : c.1 = -1 ∨ ((c.1 = 1853189228 ∨ c.1 = 61 ∨ c.1 = 60 ∨ c.1 = 62) ∧ (0 ≤ c.2.1 ∧ c.2.1 ≤ 9999) ∧ (0 ≤ c.2.2 ∧ c.2.2 ≤ 9999))) (hl : l.length + 40 ≤ 5000) : am_M am_prog (d + 4) m_Mo_sayCondition [.inr (.inr 126), .inl m] (HQ L B1 B2 fi ai aj l) (fun w h' => w = none ∧ h' = HQ L B1 B2 fi ai aj (l ++ prT c)) := by
  have s1 : ∀ l, am_ai (HQ L B1 B2 fi ai aj l) (am_fr (HQ L B1 B2 fi ai aj l) 71 126) m = sg c.1 := fun l => h1
  have s2 : c.1 ≠ -1 → ∀ l, am_ai (HQ L B1 B2 fi ai aj l) (am_fr (HQ L B1 B2 fi ai aj l) 72 126) m = c.2.1 := fun q l => h2 q
  have s3 : c.1 ≠ -1 → c.1 ≠ 1853189228 → ∀ l, am_ai (HQ L B1 B2 fi ai aj l) (am_fr (HQ L B1 B2 fi ai aj l) 73 126) m = c.2.2 := fun q q2 l => h3 q q2
  have ok1 : ∀ l, am_okr (HQ L B1 B2 fi ai aj l) (am_fr (HQ L B1 B2 fi ai aj l) 71 126) 1000 m := fun l => HQ_6 fi ai aj l rfl rfl rfl hm
  have ok2 : ∀ l, am_okr (HQ L B1 B2 fi ai aj l) (am_fr (HQ L B1 B2 fi ai aj l) 72 126) 1000 m := fun l => HQ_6 fi ai aj l rfl rfl rfl hm
  have ok3 : ∀ l, am_okr (HQ L B1 B2 fi ai aj l) (am_fr (HQ L B1 B2 fi ai aj l) 73 126) 1000 m := fun l => HQ_6 fi ai aj l rfl rfl rfl hm
  refine am_W.of rfl rfl ?_
  unfold prT
  by_cases hn : c.1 = -1
  · have es : sg c.1 = 0 := if_pos hn
    rw [if_pos hn, List.append_nil]
    refine am_W.br rfl rfl ⟨⟨⟨trivial, HQ_ok _ _ _ _ _ _ _⟩, ok1 _⟩, by rw [s1, es]; exact ⟨by omega, by omega⟩⟩ (fun c1 => absurd (by rw [s1]; exact es) c1) (fun c1 => ?_)
    exact am_W.rt rfl rfl ⟨trivial, trivial⟩ ⟨rfl, rfl⟩
  · rw [if_neg hn]
    obtain ⟨hw1, hw2, hw3⟩ := hw.resolve_left hn
    have h14 := dgs_4 c.2.1
    have h24 := dgs_4 c.2.2
    have es : (c.1 = 1853189228 ∧ sg c.1 = 1) ∨ (¬ c.1 = 1853189228 ∧ sg c.1 = c.1 ∧ 60 ≤ c.1 ∧ c.1 ≤ 62) := by
      unfold sg
      rw [if_neg hn]
      by_cases hz : c.1 = 1853189228
      · rw [if_pos hz]
        exact Or.inl ⟨hz, rfl⟩
      · rw [if_neg hz]
        exact Or.inr ⟨hz, rfl, by omega, by omega⟩
    have hsR : am_R (sg c.1) ∧ sg c.1 ≠ 0 := by
      rcases es with ⟨_, h⟩ | ⟨_, h, h5, h6⟩
      · rw [h]; exact ⟨⟨by omega, by omega⟩, by decide⟩
      · rw [h]; exact ⟨⟨by omega, by omega⟩, by omega⟩
    refine am_W.br rfl rfl ⟨⟨⟨trivial, HQ_ok _ _ _ _ _ _ _⟩, ok1 _⟩, by rw [s1]; exact hsR.1⟩ (fun c1 => ?_) (fun c1 => absurd (by rw [s1]; exact hsR.2) c1)
    refine am_W.cv 10 m_Mo_sayWord rfl rfl rfl rfl ⟨trivial, HQ_ok _ _ _ _ _ _ _⟩ (c_sayWord (d + 1) L B1 B2 fi ai aj l 105 102 0 0 (by omega) (by omega) (by omega) (by omega) (by omega)) ?_
    rintro r1 h1 ⟨rfl, rfl⟩
    show am_W _ _ _ (_, _, _, HQ L B1 B2 fi ai aj (l ++ [105, 102, 32]))
    have hmid : ∀ l1 : List Int, l1.length + 20 ≤ 5000 → am_W (am_ev am_prog (d + 3)) T_Mo_sayCondition (fun w h' => w = none ∧ h' = HQ L B1 B2 fi ai aj (l1 ++ ([36] ++ (dgs c.2.1 ++ ([32] ++ (if c.1 = 1853189228 then [] else [c.1, 32] ++ (dgs c.2.2 ++ [32]))))))) (42, [some (.inr (.inr 126)), some (.inl m)], [], HQ L B1 B2 fi ai aj l1) := by
      intro l1 hl1
      refine am_W.cv 10 m_Mo_say rfl rfl rfl rfl ⟨trivial, HQ_ok _ _ _ _ _ _ _⟩ (c_say (d + 2) L B1 B2 fi ai aj l1 36 (by omega) (by omega)) ?_
      rintro r1 h1 ⟨rfl, rfl⟩
      refine am_W.cv 10 m_Mo_sayNumber rfl rfl rfl rfl ⟨⟨⟨trivial, HQ_ok _ _ _ _ _ _ _⟩, ok2 _⟩, HQ_ok _ _ _ _ _ _ _⟩ (by rw [s2 hn]; exact c_sayNumber d L B1 B2 fi ai aj (l1 ++ [36]) c.2.1 hw2 (by rw [List.length_append, List.length_singleton]; omega)) ?_
      rintro r1 h1 ⟨rfl, rfl⟩
      rcases es with ⟨hz, he⟩ | ⟨hz, he, h5, h6⟩
      · rw [if_pos hz]
        refine am_W.br rfl rfl ⟨⟨⟨trivial, HQ_ok _ _ _ _ _ _ _⟩, ok1 _⟩, by rw [s1]; exact hsR.1, ⟨by omega, by omega⟩⟩ (fun c2 => ?_) (fun c2 => absurd (by rw [s1, he]; exact Int.le_refl 1) c2)
        refine am_W.rt rfl rfl ⟨trivial, trivial⟩ ⟨rfl, ?_⟩
        simp only [List.append_assoc, List.append_nil]
      · rw [if_neg hz]
        refine am_W.br rfl rfl ⟨⟨⟨trivial, HQ_ok _ _ _ _ _ _ _⟩, ok1 _⟩, by rw [s1]; exact hsR.1, ⟨by omega, by omega⟩⟩ (fun c2 => absurd c2 (by rw [s1, he]; omega)) (fun c2 => ?_)
        refine am_W.cv 10 m_Mo_say rfl rfl rfl rfl ⟨⟨⟨trivial, HQ_ok _ _ _ _ _ _ _⟩, ok1 _⟩, HQ_ok _ _ _ _ _ _ _⟩ (by rw [s1, he]; exact c_say (d + 2) L B1 B2 fi ai aj (l1 ++ [36] ++ (dgs c.2.1 ++ [32])) c.1 (by simp only [List.length_append, List.length_cons, List.length_nil]; omega) (by omega)) ?_
        rintro r1 h1 ⟨rfl, rfl⟩
        refine am_W.cv 10 m_Mo_say rfl rfl rfl rfl ⟨trivial, HQ_ok _ _ _ _ _ _ _⟩ (c_say (d + 2) L B1 B2 fi ai aj (l1 ++ [36] ++ (dgs c.2.1 ++ [32]) ++ [c.1]) 32 (by simp only [List.length_append, List.length_cons, List.length_nil]; omega) (by omega)) ?_
        rintro r1 h1 ⟨rfl, rfl⟩
        refine am_W.cv 10 m_Mo_sayNumber rfl rfl rfl rfl ⟨⟨⟨trivial, HQ_ok _ _ _ _ _ _ _⟩, ok3 _⟩, HQ_ok _ _ _ _ _ _ _⟩ (by rw [s3 hn hz]; exact c_sayNumber d L B1 B2 fi ai aj (l1 ++ [36] ++ (dgs c.2.1 ++ [32]) ++ [c.1] ++ [32]) c.2.2 hw3 (by simp only [List.length_append, List.length_cons, List.length_nil]; omega)) ?_
        rintro r1 h1 ⟨rfl, rfl⟩
        refine am_W.rt rfl rfl ⟨trivial, trivial⟩ ⟨rfl, ?_⟩
        simp only [List.append_assoc, List.cons_append, List.nil_append]
    rcases id es with ⟨hz, he⟩ | ⟨hz, he, h5, h6⟩
    · rw [show (if c.1 = 1853189228 then ([110, 117, 108, 108, 32] : List Int) else []) = [110, 117, 108, 108, 32] from if_pos hz]
      refine am_W.br rfl rfl ⟨⟨⟨trivial, HQ_ok _ _ _ _ _ _ _⟩, ok1 _⟩, by rw [s1]; exact hsR.1, ⟨by omega, by omega⟩⟩ (fun c2 => absurd (by rw [s1]; exact he) c2) (fun c2 => ?_)
      refine am_W.cv 10 m_Mo_sayWord rfl rfl rfl rfl ⟨trivial, HQ_ok _ _ _ _ _ _ _⟩ (c_sayWord (d + 1) L B1 B2 fi ai aj (l ++ [105, 102, 32]) 110 117 108 108 (by simp only [List.length_append, List.length_cons, List.length_nil]; omega) (by omega) (by omega) (by omega) (by omega)) ?_
      rintro r1 h1 ⟨rfl, rfl⟩
      refine (hmid (l ++ [105, 102, 32] ++ [110, 117, 108, 108, 32]) (by simp only [List.length_append, List.length_cons, List.length_nil]; omega)).mono ?_
      rintro w h' ⟨rfl, rfl⟩
      refine ⟨rfl, ?_⟩
      simp only [List.append_assoc]
    · rw [show (if c.1 = 1853189228 then ([110, 117, 108, 108, 32] : List Int) else []) = [] from if_neg hz]
      refine am_W.br rfl rfl ⟨⟨⟨trivial, HQ_ok _ _ _ _ _ _ _⟩, ok1 _⟩, by rw [s1]; exact hsR.1, ⟨by omega, by omega⟩⟩ (fun c2 => ?_) (fun c2 => absurd (by rw [s1, he]; omega) c2)
      refine (hmid (l ++ [105, 102, 32]) (by simp only [List.length_append, List.length_cons, List.length_nil]; omega)).mono ?_
      rintro w h' ⟨rfl, rfl⟩
      refine ⟨rfl, ?_⟩
      simp only [List.append_assoc, List.nil_append]
set_option maxHeartbeats 4000000 in
set_option maxRecDepth 100000 in
theorem l_mprint1 (d L B1 B2 : Nat) (fi : Nat → Nat → Int) (ai aj : Nat → Int → Int) (m : Int) (hm : 0 ≤ m ∧ m < 6) (x : MT) (D : DT) (hI : DI D) (hw : wfM D x) (hx : RefB ai m x) (Q : Option am_V → am_H → Prop) (l : List Int) (l2 : Option am_V) (hl : l.length + (prM x).length ≤ 626) (w : am_W (am_ev am_prog (d + 4)) T_Mo_print Q (177, [some (.inr (.inr 126)), some (.inl m), some (.inl 3)], [], HQ L B1 B2 fi ai aj (l ++ prM x))) : am_W (am_ev am_prog (d + 4)) T_Mo_print Q (15, [some (.inr (.inr 126)), some (.inl m), l2], [], HQ L B1 B2 fi ai aj l) := by
  obtain ⟨s, P1, P2, P3, J, C, g⟩ := x
  obtain ⟨r1, r2, r3, r4, r5, r6, r7, r8, r9, r10⟩ := hx
  obtain ⟨w1, w2, w3, w4, w5, w6⟩ := hw
  dsimp only at *
  have hn := hI.1
  have hco := co_in s hI
  have q1 := wfP_p (by omega) w2
  have q2 := wfP_p (by omega) w3.1
  have q3 : (P3.1 = 0 ∨ P3.1 = 1 ∨ P3.1 = 2) ∧ (P3.1 = 0 → P3.2.2.length ≤ 30 ∧ ∀ q ∈ P3.2.2, okC 4 q) ∧ (P3.1 ≠ 0 → 0 ≤ P3.2.1 ∧ P3.2.1 ≤ 9999) := by
    rcases w4 with ⟨h, -⟩ | ⟨h1, -, h3, h4⟩
    · exact wfP_p (by omega) h
    · refine ⟨Or.inr (Or.inr h1), fun q => absurd (q.symm.trans h1) (by decide), fun _ => ⟨h3, ?_⟩⟩
      rcases h4 with h4 | h4
      · omega
      · have := co_in J.1 hI
        omega
  have hJ : am_R J.1 ∧ (J.1 ≠ -1 → (0 ≤ J.1 ∧ J.1 ≤ 9999) ∧ (0 ≤ J.2.1 ∧ J.2.1 ≤ 9999) ∧ (0 ≤ J.2.2 ∧ J.2.2 ≤ 9999)) := by
    rcases w4 with ⟨-, h⟩ | ⟨-, -, -, h4⟩
    · exact ⟨⟨by omega, by omega⟩, fun q => absurd h q⟩
    · rcases h4 with h4 | h4
      · exact ⟨⟨by omega, by omega⟩, fun q => absurd h4.1 q⟩
      · have := co_in J.1 hI
        exact ⟨⟨by omega, by omega⟩, fun q => ⟨by omega, by omega, by omega⟩⟩
  have hC2 : C.1 = -1 ∨ ((C.1 = 1853189228 ∨ C.1 = 61 ∨ C.1 = 60 ∨ C.1 = 62) ∧ (0 ≤ C.2.1 ∧ C.2.1 ≤ 9999) ∧ (0 ≤ C.2.2 ∧ C.2.2 ≤ 9999)) := by
    rcases w5 with h | ⟨h1, h2, h3, h4, h5⟩
    · exact Or.inl h
    · exact Or.inr ⟨h1, ⟨h2, by omega⟩, h4, h5⟩
  clear w2 w3 w4 w5 hco
  have oS : ∀ l, am_okr (HQ L B1 B2 fi ai aj l) (am_fr (HQ L B1 B2 fi ai aj l) 62 126) 1000 m := fun l => HQ_6 fi ai aj l rfl rfl rfl hm
  have oJ : ∀ l, am_okr (HQ L B1 B2 fi ai aj l) (am_fr (HQ L B1 B2 fi ai aj l) 67 126) 1000 m := fun l => HQ_6 fi ai aj l rfl rfl rfl hm
  have oH : ∀ l, am_okr (HQ L B1 B2 fi ai aj l) (am_fr (HQ L B1 B2 fi ai aj l) 68 126) 1000 m := fun l => HQ_6 fi ai aj l rfl rfl rfl hm
  have oT : ∀ l, am_okr (HQ L B1 B2 fi ai aj l) (am_fr (HQ L B1 B2 fi ai aj l) 69 126) 1000 m := fun l => HQ_6 fi ai aj l rfl rfl rfl hm
  have oG : ∀ l, am_okr (HQ L B1 B2 fi ai aj l) (am_fr (HQ L B1 B2 fi ai aj l) 70 126) 1000 m := fun l => HQ_6 fi ai aj l rfl rfl rfl hm
  have eS : ∀ l, am_ai (HQ L B1 B2 fi ai aj l) (am_fr (HQ L B1 B2 fi ai aj l) 62 126) m = s := fun l => r1
  have eJ : ∀ l, am_ai (HQ L B1 B2 fi ai aj l) (am_fr (HQ L B1 B2 fi ai aj l) 67 126) m = J.1 := fun l => r5
  have eG : ∀ l, am_ai (HQ L B1 B2 fi ai aj l) (am_fr (HQ L B1 B2 fi ai aj l) 70 126) m = g := fun l => r10
  have o126 : ∀ l, am_ok (HQ L B1 B2 fi ai aj l) 126 10 := fun l => HQ_ok _ _ _ _ _ _ l
  unfold prM at hl w
  dsimp only at hl w
  simp only [List.length_append, List.length_cons, List.length_nil] at hl
  refine am_W.cv 10 m_Mo_sayWord rfl rfl rfl rfl ⟨trivial, o126 _⟩ (c_sayWord (d + 2) L B1 B2 fi ai aj l 109 97 112 0 (by omega) (by omega) (by omega) (by omega) (by omega)) ?_
  rintro r1 h1 ⟨rfl, rfl⟩
  generalize hl1 : l ++ wds 109 97 112 0 = l1
  have k1 : l1.length = l.length + 4 := by rw [← hl1, List.length_append]; rfl
  refine am_W.cv 10 m_Mo_sayNumber rfl rfl rfl rfl ⟨⟨⟨trivial, o126 _⟩, oS _⟩, o126 _⟩ (by rw [eS]; exact c_sayNumber (d + 1) L B1 B2 fi ai aj l1 s (by omega) (by omega)) ?_
  rintro r1 h1 ⟨rfl, rfl⟩
  generalize hl2 : l1 ++ (dgs s ++ [32]) = l2
  have k2 : l2.length = l1.length + ((dgs s).length + 1) := by rw [← hl2, List.length_append, List.length_append]; rfl
  refine am_W.cv 10 m_Mo_say rfl rfl rfl rfl ⟨trivial, o126 _⟩ (c_say (d + 3) L B1 B2 fi ai aj l2 58 (by omega) (by omega)) ?_
  rintro r1 h1 ⟨rfl, rfl⟩
  refine am_W.cv 10 m_Mo_say rfl rfl rfl rfl ⟨trivial, o126 _⟩ (c_say (d + 3) L B1 B2 fi ai aj (l2 ++ [58]) 32 (by rw [List.length_append, List.length_singleton]; omega) (by omega)) ?_
  rintro r1 h1 ⟨rfl, rfl⟩
  generalize hl3 : l2 ++ [58] ++ [32] = l3
  have k3 : l3.length = l2.length + 2 := by rw [← hl3, List.length_append, List.length_append]; rfl
  refine am_W.gp 50 rfl trivial ?_
  refine am_W.br rfl rfl ⟨trivial, ⟨by omega, by omega⟩, ⟨by omega, by omega⟩⟩ (fun c1 => absurd c1 (by decide)) (fun c1 => ?_)
  refine am_W.cv 10 m_Mo_sayName rfl rfl rfl rfl ⟨trivial, o126 _⟩ (by rw [show 3 * m + 0 = 3 * m by omega]; exact c_sayName d L B1 B2 fi ai aj (3 * m) P1 l3 ⟨by omega, by omega⟩ r2 q1.1 q1.2.1 q1.2.2 (by omega)) ?_
  rintro r1 h1 ⟨rfl, rfl⟩
  generalize hl4 : l3 ++ prP P1 = l4
  have k4 : l4.length = l3.length + (prP P1).length := by rw [← hl4, List.length_append]
  refine am_W.gp 50 rfl trivial ?_
  refine am_W.br rfl rfl ⟨trivial, ⟨by omega, by omega⟩, ⟨by omega, by omega⟩⟩ (fun c1 => absurd c1 (by decide)) (fun c1 => ?_)
  refine am_W.cv 10 m_Mo_sayName rfl rfl rfl rfl ⟨trivial, o126 _⟩ (c_sayName d L B1 B2 fi ai aj (3 * m + 1) P2 l4 ⟨by omega, by omega⟩ r3 q2.1 q2.2.1 q2.2.2 (by omega)) ?_
  rintro r1 h1 ⟨rfl, rfl⟩
  generalize hl5 : l4 ++ prP P2 = l5
  have k5 : l5.length = l4.length + (prP P2).length := by rw [← hl5, List.length_append]
  refine am_W.gp 50 rfl trivial ?_
  refine am_W.br rfl rfl ⟨trivial, ⟨by omega, by omega⟩, ⟨by omega, by omega⟩⟩ (fun c1 => absurd c1 (by decide)) (fun c1 => ?_)
  refine am_W.cv 10 m_Mo_sayName rfl rfl rfl rfl ⟨trivial, o126 _⟩ (c_sayName d L B1 B2 fi ai aj (3 * m + 2) P3 l5 ⟨by omega, by omega⟩ r4 q3.1 q3.2.1 q3.2.2 (by omega)) ?_
  rintro r1 h1 ⟨rfl, rfl⟩
  generalize hl6 : l5 ++ prP P3 = l6
  have k6 : l6.length = l5.length + (prP P3).length := by rw [← hl6, List.length_append]
  refine am_W.gp 50 rfl trivial ?_
  refine am_W.br rfl rfl ⟨trivial, ⟨by omega, by omega⟩, ⟨by omega, by omega⟩⟩ (fun c1 => ?_) (fun c1 => absurd (by decide) c1)
  show am_W (am_ev am_prog (d + 4)) T_Mo_print Q (70, [some (.inr (.inr 126)), some (.inl m), some (.inl 3)], [], HQ L B1 B2 fi ai aj l6)
  have efin : ∀ l9 : List Int, l9 = l6 ++ prJ J ++ prT C ++ prG g → l9 ++ [46] ++ [10] = l ++ ([109, 97, 112, 32] ++ (dgs s ++ ([32] ++ ([58, 32] ++ (prP P1 ++ (prP P2 ++ (prP P3 ++ (prJ J ++ (prT C ++ (prG g ++ [46, 10])))))))))) := by
    intro l9 h9
    rw [h9, ← hl6, ← hl5, ← hl4, ← hl3, ← hl2, ← hl1]
    show l ++ [109, 97, 112, 32] ++ (dgs s ++ [32]) ++ [58] ++ [32] ++ prP P1 ++ prP P2 ++ prP P3 ++ prJ J ++ prT C ++ prG g ++ [46] ++ [10] = _
    simp only [List.append_assoc, List.cons_append, List.nil_append]
  have h165 : ∀ l9 : List Int, l9 = l6 ++ prJ J ++ prT C ++ prG g → am_W (am_ev am_prog (d + 4)) T_Mo_print Q (165, [some (.inr (.inr 126)), some (.inl m), some (.inl 3)], [], HQ L B1 B2 fi ai aj l9) := by
    intro l9 h9
    have k9 : l9.length = l6.length + (prJ J).length + (prT C).length + (prG g).length := by rw [h9, List.length_append, List.length_append, List.length_append]
    refine am_W.cv 10 m_Mo_say rfl rfl rfl rfl ⟨trivial, o126 _⟩ (c_say (d + 3) L B1 B2 fi ai aj l9 46 (by omega) (by omega)) ?_
    rintro r1 h1 ⟨rfl, rfl⟩
    refine am_W.cv 10 m_Mo_say rfl rfl rfl rfl ⟨trivial, o126 _⟩ (c_say (d + 3) L B1 B2 fi ai aj (l9 ++ [46]) 10 (by rw [List.length_append, List.length_singleton]; omega) (by omega)) ?_
    rintro r1 h1 ⟨rfl, rfl⟩
    rw [efin l9 h9]
    exact w
  have h130 : ∀ l7 : List Int, l7 = l6 ++ prJ J → am_W (am_ev am_prog (d + 4)) T_Mo_print Q (130, [some (.inr (.inr 126)), some (.inl m), some (.inl 3)], [], HQ L B1 B2 fi ai aj l7) := by
    intro l7 h7
    have k7 : l7.length = l6.length + (prJ J).length := by rw [h7, List.length_append]
    refine am_W.cv 10 m_Mo_sayCondition rfl rfl rfl rfl ⟨trivial, o126 _⟩ (c_sayCondition d L B1 B2 fi ai aj m C l7 hm r7 r8 r9 hC2 (by omega)) ?_
    rintro r1 h1 ⟨rfl, rfl⟩
    generalize hl8 : l7 ++ prT C = l8
    have k8 : l8.length = l7.length + (prT C).length := by rw [← hl8, List.length_append]
    by_cases hg : g = -1
    · have e : prG g = [] := if_pos hg
      exact am_W.br rfl rfl ⟨⟨⟨trivial, o126 _⟩, oG _⟩, by rw [eG]; exact ⟨by omega, by omega⟩, ⟨by omega, by omega⟩⟩ (fun c1 => h165 l8 (by rw [← hl8, h7, e, List.append_nil])) (fun c1 => absurd hg (by rw [eG] at c1; exact c1))
    · have e : prG g = [105, 110, 32] ++ (dgs g ++ [32]) := if_neg hg
      have h14 := dgs_4 g
      refine am_W.br rfl rfl ⟨⟨⟨trivial, o126 _⟩, oG _⟩, by rw [eG]; exact ⟨by omega, by omega⟩, ⟨by omega, by omega⟩⟩ (fun c1 => absurd (by rw [eG] at c1; exact c1) hg) (fun c1 => ?_)
      refine am_W.cv 10 m_Mo_sayWord rfl rfl rfl rfl ⟨trivial, o126 _⟩ (c_sayWord (d + 2) L B1 B2 fi ai aj l8 105 110 0 0 (by omega) (by omega) (by omega) (by omega) (by omega)) ?_
      rintro r1 h1 ⟨rfl, rfl⟩
      refine am_W.cv 10 m_Mo_sayNumber rfl rfl rfl rfl ⟨⟨⟨trivial, o126 _⟩, oG _⟩, o126 _⟩ (by rw [eG]; exact c_sayNumber (d + 1) L B1 B2 fi ai aj (l8 ++ wds 105 110 0 0) g (by omega) (by show (l8 ++ [105, 110, 32]).length + 5 ≤ 6000; simp only [List.length_append, List.length_cons, List.length_nil]; omega)) ?_
      rintro r1 h1 ⟨rfl, rfl⟩
      refine h165 _ ?_
      rw [← hl8, h7, e]
      show l6 ++ prJ J ++ prT C ++ [105, 110, 32] ++ (dgs g ++ [32]) = _
      simp only [List.append_assoc]
  by_cases hj : J.1 = -1
  · have e : prJ J = [] := if_pos hj
    exact am_W.br rfl rfl ⟨⟨⟨trivial, o126 _⟩, oJ _⟩, by rw [eJ]; exact hJ.1, ⟨by omega, by omega⟩⟩ (fun c1 => h130 l6 (by rw [e, List.append_nil])) (fun c1 => absurd hj (by rw [eJ] at c1; exact c1))
  · obtain ⟨j1, j2, j3⟩ := hJ.2 hj
    obtain ⟨r61, r62⟩ := r6 hj
    have eH : ∀ l, am_ai (HQ L B1 B2 fi ai aj l) (am_fr (HQ L B1 B2 fi ai aj l) 68 126) m = J.2.1 := fun l => r61
    have eT : ∀ l, am_ai (HQ L B1 B2 fi ai aj l) (am_fr (HQ L B1 B2 fi ai aj l) 69 126) m = J.2.2 := fun l => r62
    have e : prJ J = [111, 102, 32] ++ (dgs J.1 ++ ([32] ++ ([98, 121, 32] ++ (dgs J.2.1 ++ ([32] ++ (dgs J.2.2 ++ [32])))))) := if_neg hj
    have hl' := hl
    rw [e] at hl'
    simp only [List.length_append, List.length_cons, List.length_nil] at hl'
    refine am_W.br rfl rfl ⟨⟨⟨trivial, o126 _⟩, oJ _⟩, by rw [eJ]; exact hJ.1, ⟨by omega, by omega⟩⟩ (fun c1 => absurd (by rw [eJ] at c1; exact c1) hj) (fun c1 => ?_)
    refine am_W.cv 10 m_Mo_sayWord rfl rfl rfl rfl ⟨trivial, o126 _⟩ (c_sayWord (d + 2) L B1 B2 fi ai aj l6 111 102 0 0 (by omega) (by omega) (by omega) (by omega) (by omega)) ?_
    rintro r1 h1 ⟨rfl, rfl⟩
    generalize hm1 : l6 ++ wds 111 102 0 0 = m1
    have n1 : m1.length = l6.length + 3 := by rw [← hm1, List.length_append]; rfl
    refine am_W.cv 10 m_Mo_sayNumber rfl rfl rfl rfl ⟨⟨⟨trivial, o126 _⟩, oJ _⟩, o126 _⟩ (by rw [eJ]; exact c_sayNumber (d + 1) L B1 B2 fi ai aj m1 J.1 j1 (by omega)) ?_
    rintro r1 h1 ⟨rfl, rfl⟩
    generalize hm2 : m1 ++ (dgs J.1 ++ [32]) = m2
    have n2 : m2.length = m1.length + ((dgs J.1).length + 1) := by rw [← hm2, List.length_append, List.length_append]; rfl
    refine am_W.cv 10 m_Mo_sayWord rfl rfl rfl rfl ⟨trivial, o126 _⟩ (c_sayWord (d + 2) L B1 B2 fi ai aj m2 98 121 0 0 (by omega) (by omega) (by omega) (by omega) (by omega)) ?_
    rintro r1 h1 ⟨rfl, rfl⟩
    generalize hm3 : m2 ++ wds 98 121 0 0 = m3
    have n3 : m3.length = m2.length + 3 := by rw [← hm3, List.length_append]; rfl
    refine am_W.cv 10 m_Mo_sayNumber rfl rfl rfl rfl ⟨⟨⟨trivial, o126 _⟩, oH _⟩, o126 _⟩ (by rw [eH]; exact c_sayNumber (d + 1) L B1 B2 fi ai aj m3 J.2.1 j2 (by omega)) ?_
    rintro r1 h1 ⟨rfl, rfl⟩
    generalize hm4 : m3 ++ (dgs J.2.1 ++ [32]) = m4
    have n4 : m4.length = m3.length + ((dgs J.2.1).length + 1) := by rw [← hm4, List.length_append, List.length_append]; rfl
    refine am_W.cv 10 m_Mo_sayNumber rfl rfl rfl rfl ⟨⟨⟨trivial, o126 _⟩, oT _⟩, o126 _⟩ (by rw [eT]; exact c_sayNumber (d + 1) L B1 B2 fi ai aj m4 J.2.2 j3 (by omega)) ?_
    rintro r1 h1 ⟨rfl, rfl⟩
    refine h130 _ ?_
    rw [e, ← hm4, ← hm3, ← hm2, ← hm1]
    show l6 ++ [111, 102, 32] ++ (dgs J.1 ++ [32]) ++ [98, 121, 32] ++ (dgs J.2.1 ++ [32]) ++ (dgs J.2.2 ++ [32]) = _
    simp only [List.append_assoc, List.cons_append, List.nil_append]
theorem HQ_nil (L B1 B2 : Nat) (fi : Nat → Nat → Int) (ai aj : Nat → Int → Int) : HQ L B1 B2 fi ai aj [] = HH L B1 B2 (am_u2 fi 109 126 0) ai aj := by
  unfold HQ
  rw [wr_n, sa_id]
  rfl
set_option maxHeartbeats 400000 in
set_option maxRecDepth 100000 in
theorem l_Mo_print (d L B1 B2 : Nat) (fi : Nat → Nat → Int) (ai aj : Nat → Int → Int) (D : DT) (hI : DI D) (ms : List MT) (h6 : ms.length ≤ 6) (h61 : fi 61 126 = (ms.length : Int)) (hr : ∀ (i : Nat) (x : MT), ms[i]? = some x → RefB ai (i : Int) x) (hw : ∀ x ∈ ms, wfM D x) (hl : (prA ms).length ≤ 626) : ∀ (rest pre : List MT) (i : Int) (l2 : Option am_V), ms = pre ++ rest → i = (pre.length : Int) → am_W (am_ev am_prog (d + 4)) T_Mo_print (fun w h' => w = some (.inl ((prA ms).length : Int)) ∧ h' = HQ L B1 B2 fi ai aj (prA ms)) (7, [some (.inr (.inr 126)), some (.inl i), l2], [], HQ L B1 B2 fi ai aj (prA pre)) := by
  have e61 : ∀ l, am_fi (HQ L B1 B2 fi ai aj l) 61 126 = (ms.length : Int) := fun l => h61
  intro rest
  induction rest with
  | nil =>
    intro pre i l2 hL hi
    rw [List.append_nil] at hL
    subst hL
    refine am_W.br rfl rfl ⟨⟨trivial, HQ_ok _ _ _ _ _ _ _⟩, ⟨by omega, by omega⟩, by rw [e61]; exact ⟨by omega, by omega⟩⟩ (fun c1 => ?_) (fun c1 => absurd c1 (by rw [e61]; omega))
    exact am_W.rt rfl rfl ⟨⟨trivial, HQ_ok _ _ _ _ _ _ _⟩, trivial⟩ ⟨rfl, rfl⟩
  | cons x rest ih =>
    intro pre i l2 hL hi
    have hlen : ms.length = pre.length + (rest.length + 1) := by rw [hL, List.length_append, List.length_cons]
    have hx : ms[pre.length]? = some x := by
      rw [hL, List.getElem?_append_right (Nat.le_refl _), Nat.sub_self]
      rfl
    have hpl : (prA ms).length = (prA pre).length + ((prM x).length + (prA rest).length) := by
      rw [hL, prA_app, List.length_append]
      show _ + (prM x ++ prA rest).length = _
      rw [List.length_append]
    refine am_W.br rfl rfl ⟨⟨trivial, HQ_ok _ _ _ _ _ _ _⟩, ⟨by omega, by omega⟩, by rw [e61]; exact ⟨by omega, by omega⟩⟩ (fun c1 => absurd c1 (by rw [e61]; omega)) (fun c1 => ?_)
    refine l_mprint1 d L B1 B2 fi ai aj i ⟨by omega, by omega⟩ x D hI (hw x (by rw [hL]; exact List.mem_append_right _ (List.mem_cons_self ..))) (by rw [hi]; exact hr _ x hx) _ (prA pre) l2 (by omega) ?_
    refine am_W.gp 7 rfl trivial ?_
    have e : prA pre ++ prM x = prA (pre ++ [x]) := by
      rw [prA_app]
      show _ = prA pre ++ (prM x ++ [])
      rw [List.append_nil]
    rw [e]
    exact ih (pre ++ [x]) (i + 1) _ (by rw [hL, List.append_assoc]; rfl) (by rw [List.length_append, List.length_singleton]; omega)
set_option maxHeartbeats 400000 in
set_option maxRecDepth 100000 in
theorem c_Mo_print (d L B1 B2 : Nat) (fi : Nat → Nat → Int) (ai aj : Nat → Int → Int) (D : DT) (hI : DI D) (ms : List MT) (h6 : ms.length ≤ 6) (h61 : fi 61 126 = (ms.length : Int)) (hr : ∀ (i : Nat) (x : MT), ms[i]? = some x → RefB ai (i : Int) x) (hw : ∀ x ∈ ms, wfM D x) (hl : (prA ms).length ≤ 626) : am_M am_prog (d + 5) m_Mo_print [.inr (.inr 126)] (HH L B1 B2 fi ai aj) (fun w h' => w = some (.inl ((prA ms).length : Int)) ∧ h' = HQ L B1 B2 fi ai aj (prA ms)) := by
  refine am_W.of rfl rfl ?_
  have hw2 := l_Mo_print d L B1 B2 fi ai aj D hI ms h6 h61 hr hw hl ms [] 0 none rfl rfl
  rw [show prA [] = [] from rfl, HQ_nil] at hw2
  exact am_W.gp 7 rfl ⟨trivial, okI rfl rfl rfl⟩ hw2
