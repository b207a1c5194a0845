-- names, conditions and mappings printed by the reference
abbrev RefB (a : Nat → Int → Int) (m : Int) (x : MT) : Prop := RefM (a 132) (a 133) (a 134) (a 135) (a 136) (a 137) (a 138) (a 139) (a 140) (a 141) (a 142) (a 143) m x
theorem dgs_4 (v : Int) : (dgs v).length ≤ 4 := by
  unfold dgs
  simp only [List.length_append, List.length_cons, List.length_nil]
  (repeat' split) <;> simp only [List.length_cons, List.length_nil] <;> omega
theorem HQ_ai (L B1 B2 : Nat) (fi : Nat → Nat → Int) (ai aj : Nat → Int → Int) (l : List Int) {b : Nat} (h : b ≠ 169) : am_ai (HQ L B1 B2 fi ai aj l) b = ai b := san _ _ h
theorem HQ_r {L B1 B2 : Nat} (fi : Nat → Nat → Int) (ai aj : Nat → Int → Int) (l : List Int) {r N : Nat} {i : Int} (e : Nat.ble 16 r = true) (e1 : Nat.blt r 170 = true) (e2 : CC L r = (1000, N)) (e3 : Nat.ble N 100000 = true) (h0 : 0 ≤ i) (h1 : i < (N : Int)) : am_okr (HQ L B1 B2 fi ai aj l) r 1000 i := okrI e e1 e2 e3 h0 h1
set_option maxHeartbeats 400000 in
set_option maxRecDepth 100000 in
theorem l_sayName (d L B1 B2 : Nat) (fi : Nat → Nat → Int) (ai aj : Nat → Int → Int) (n : Int) (hn : 0 ≤ n ∧ n < 18) (L0 : List Int) (l1 : List Int) (h53 : ai 135 n = (L0.length : Int)) (h30 : L0.length ≤ 30) (hpc : ∀ i : Nat, i < L0.length → ai 136 (30 * n + (i : Int)) = rp (L0.getD i 0)) (hok : ∀ x ∈ L0, okC 4 x) (hl : l1.length + (prL L0 ++ [34, 32]).length ≤ 5000) : ∀ (rest pre : List Int) (i : Int) (l3 : Option am_V), L0 = pre ++ rest → i = (pre.length : Int) → am_W (am_ev am_prog (d + 2)) T_Mo_sayName (fun w h' => w = none ∧ h' = HQ L B1 B2 fi ai aj (l1 ++ (prL L0 ++ [34, 32]))) (49, [some (.inr (.inr 126)), some (.inl n), some (.inl i), l3], [], HQ L B1 B2 fi ai aj (l1 ++ prL pre)) := by
  have e53 : ∀ l, am_ai (HQ L B1 B2 fi ai aj l) (am_fr (HQ L B1 B2 fi ai aj l) 65 126) n = (L0.length : Int) := fun l => h53
  have epc : ∀ l (i : Nat), i < L0.length → am_ai (HQ L B1 B2 fi ai aj l) (am_fr (HQ L B1 B2 fi ai aj l) 66 126) (30 * n + (i : Int)) = rp (L0.getD i 0) := fun l i hi => hpc i hi
  rw [List.length_append] at hl
  have hl2 : l1.length + ((prL L0).length + 2) ≤ 5000 := hl
  have okc : ∀ l, am_okr (HQ L B1 B2 fi ai aj l) (am_fr (HQ L B1 B2 fi ai aj l) 65 126) 1000 n := fun l => okrI rfl rfl (t := 1000) (N := 18) rfl rfl hn.1 (by omega)
  intro rest
  induction rest with
  | nil =>
    intro pre i l3 hL hi
    rw [List.append_nil] at hL
    subst hL
    refine am_W.br rfl rfl ⟨⟨⟨trivial, HQ_ok _ _ _ _ _ _ _⟩, okc _⟩, ⟨by omega, by omega⟩, by rw [e53]; exact ⟨by omega, by omega⟩⟩ (fun c1 => ?_) (fun c1 => absurd c1 (by rw [e53]; omega))
    refine am_W.cv 10 m_Mo_say rfl rfl rfl rfl ⟨trivial, HQ_ok _ _ _ _ _ _ _⟩ (c_say (d + 1) L B1 B2 fi ai aj (l1 ++ prL L0) 34 (by rw [List.length_append]; omega) (by omega)) ?_
    rintro r1 h1 ⟨rfl, rfl⟩
    refine am_W.cv 10 m_Mo_say rfl rfl rfl rfl ⟨trivial, HQ_ok _ _ _ _ _ _ _⟩ (c_say (d + 1) L B1 B2 fi ai aj (l1 ++ prL L0 ++ [34]) 32 (by rw [List.length_append, List.length_append, List.length_singleton]; omega) (by omega)) ?_
    rintro r1 h1 ⟨rfl, rfl⟩
    rw [List.append_assoc, List.append_assoc]
    exact am_W.rt rfl rfl ⟨trivial, trivial⟩ ⟨rfl, rfl⟩
  | cons x rest ih =>
    intro pre i l3 hL hi
    have hlen : L0.length = pre.length + (rest.length + 1) := by rw [hL, List.length_append, List.length_cons]
    have hx : L0.getD pre.length 0 = x := by
      rw [hL, List.getD_eq_getElem?_getD, List.getElem?_append_right (Nat.le_refl _), Nat.sub_self]
      rfl
    have hxo : okC 4 x := hok x (by rw [hL]; exact List.mem_append_right _ (List.mem_cons_self ..))
    have hpl : (prL L0).length = (prL pre).length + ((prC x).length + (prL rest).length) := by
      rw [hL, prL_app, List.length_append]
      show _ + (prC x ++ prL rest).length = _
      rw [List.length_append]
    have hgo : am_W (am_ev am_prog (d + 2)) T_Mo_sayName (fun w h' => w = none ∧ h' = HQ L B1 B2 fi ai aj (l1 ++ (prL L0 ++ [34, 32]))) (137, [some (.inr (.inr 126)), some (.inl n), some (.inl i), some (.inl (rp x))], [], HQ L B1 B2 fi ai aj (l1 ++ prL pre ++ prC x)) := by
      refine am_W.gp 49 rfl trivial ?_
      have e : l1 ++ prL pre ++ prC x = l1 ++ prL (pre ++ [x]) := by
        rw [prL_app, List.append_assoc]
        show _ = l1 ++ (prL pre ++ (prC x ++ []))
        rw [List.append_nil]
      rw [e]
      exact ih (pre ++ [x]) (i + 1) _ (by rw [hL, List.append_assoc]; rfl) (by rw [List.length_append, List.length_singleton]; omega)
    have hrd : am_ai (HQ L B1 B2 fi ai aj (l1 ++ prL pre)) (am_fr (HQ L B1 B2 fi ai aj (l1 ++ prL pre)) 66 126) (30 * n + i) = rp x := by
      rw [hi, epc _ pre.length (by omega), hx]
    have okp : am_okr (HQ L B1 B2 fi ai aj (l1 ++ prL pre)) (am_fr (HQ L B1 B2 fi ai aj (l1 ++ prL pre)) 66 126) 1000 (30 * n + i) := okrI rfl rfl (t := 1000) (N := 540) rfl rfl (by omega) (by omega)
    refine am_W.br rfl rfl ⟨⟨⟨trivial, HQ_ok _ _ _ _ _ _ _⟩, okc _⟩, ⟨by omega, by omega⟩, by rw [e53]; exact ⟨by omega, by omega⟩⟩ (fun c1 => absurd c1 (by rw [e53]; omega)) (fun c1 => ?_)
    refine am_W.gp 71 rfl ⟨⟨trivial, HQ_ok _ _ _ _ _ _ _⟩, okp⟩ ?_
    rw [hrd]
    by_cases h4 : x < 4
    · have er : rp x = 256 + x := if_pos h4
      have ep : prC x = [123] ++ (dgs x ++ [125]) := if_pos h4
      rw [er, ep] at hgo
      rw [ep] at hpl
      rw [er]
      have hx0 : 0 ≤ x := by rcases hxo with h | h <;> omega
      rw [List.length_append, List.length_append, List.length_singleton] at hpl
      have hpl2 : (prL L0).length = (prL pre).length + (1 + ((dgs x).length + 1) + (prL rest).length) := hpl
      have h14 := dgs_4 x
      refine am_W.br rfl rfl ⟨trivial, ⟨by omega, by omega⟩, ⟨by omega, by omega⟩⟩ (fun c2 => absurd c2 (by omega)) (fun c2 => ?_)
      refine am_W.cv 10 m_Mo_say rfl rfl rfl rfl ⟨trivial, HQ_ok _ _ _ _ _ _ _⟩ (c_say (d + 1) L B1 B2 fi ai aj (l1 ++ prL pre) 123 (by rw [List.length_append]; omega) (by omega)) ?_
      rintro r1 h1 ⟨rfl, rfl⟩
      refine am_W.cv 10 m_Mo_sayDigits rfl rfl rfl rfl ⟨trivial, HQ_ok _ _ _ _ _ _ _⟩ (by rw [show (256 + x - 256) = x by omega]; exact c_sayDigits d L B1 B2 fi ai aj (l1 ++ prL pre ++ [123]) x (by omega) (by rw [List.length_append, List.length_append, List.length_singleton]; omega)) ?_
      rintro r1 h1 ⟨rfl, rfl⟩
      refine am_W.cv 10 m_Mo_say rfl rfl rfl rfl ⟨trivial, HQ_ok _ _ _ _ _ _ _⟩ (c_say (d + 1) L B1 B2 fi ai aj (l1 ++ prL pre ++ [123] ++ dgs x) 125 (by rw [List.length_append, List.length_append, List.length_append, List.length_singleton]; omega) (by omega)) ?_
      rintro r1 h1 ⟨rfl, rfl⟩
      refine am_W.gp 137 rfl trivial ?_
      rw [List.append_assoc (l1 ++ prL pre ++ [123]), List.append_assoc (l1 ++ prL pre)]
      exact hgo
    · have er : rp x = x := if_neg h4
      rw [er] at hgo ⊢
      have hx0 : 32 ≤ x ∧ x ≤ 126 := by rcases hxo with h | h <;> omega
      have h132 : ∀ l2 : List Int, l2.length < 6000 → l2 ++ [x] = l1 ++ prL pre ++ prC x → am_W (am_ev am_prog (d + 2)) T_Mo_sayName (fun w h' => w = none ∧ h' = HQ L B1 B2 fi ai aj (l1 ++ (prL L0 ++ [34, 32]))) (132, [some (.inr (.inr 126)), some (.inl n), some (.inl i), some (.inl x)], [], HQ L B1 B2 fi ai aj l2) := by
        intro l2 h1 h2
        refine am_W.cv 10 m_Mo_say rfl rfl rfl rfl ⟨trivial, HQ_ok _ _ _ _ _ _ _⟩ (c_say (d + 1) L B1 B2 fi ai aj l2 x h1 (by omega)) ?_
        rintro r1 h1 ⟨rfl, rfl⟩
        rw [h2]
        exact hgo
      have hesc : esc x → am_W (am_ev am_prog (d + 2)) T_Mo_sayName (fun w h' => w = none ∧ h' = HQ L B1 B2 fi ai aj (l1 ++ (prL L0 ++ [34, 32]))) (126, [some (.inr (.inr 126)), some (.inl n), some (.inl i), some (.inl x)], [], HQ L B1 B2 fi ai aj (l1 ++ prL pre)) := by
        intro he
        have ep : prC x = [92, x] := by rw [prC, if_neg h4, if_pos he]
        rw [ep] at hpl
        have hpl2 : (prL L0).length = (prL pre).length + (2 + (prL rest).length) := hpl
        refine am_W.cv 10 m_Mo_say rfl rfl rfl rfl ⟨trivial, HQ_ok _ _ _ _ _ _ _⟩ (c_say (d + 1) L B1 B2 fi ai aj (l1 ++ prL pre) 92 (by rw [List.length_append]; omega) (by omega)) ?_
        rintro r1 h1 ⟨rfl, rfl⟩
        exact h132 _ (by rw [List.length_append, List.length_append, List.length_singleton]; omega) (by rw [ep, List.append_assoc (l1 ++ prL pre)]; rfl)
      refine am_W.br rfl rfl ⟨trivial, ⟨by omega, by omega⟩, ⟨by omega, by omega⟩⟩ (fun c2 => ?_) (fun c2 => absurd c2 (by omega))
      refine am_W.br rfl rfl ⟨trivial, ⟨by omega, by omega⟩, ⟨by omega, by omega⟩⟩ (fun c3 => hesc (by omega)) (fun c3 => ?_)
      refine am_W.br rfl rfl ⟨trivial, ⟨by omega, by omega⟩, ⟨by omega, by omega⟩⟩ (fun c4 => hesc (by omega)) (fun c4 => ?_)
      refine am_W.br rfl rfl ⟨trivial, ⟨by omega, by omega⟩, ⟨by omega, by omega⟩⟩ (fun c5 => hesc (by omega)) (fun c5 => ?_)
      refine am_W.br rfl rfl ⟨trivial, ⟨by omega, by omega⟩, ⟨by omega, by omega⟩⟩ (fun c6 => ?_) (fun c6 => hesc (by omega))
      have ep : prC x = [x] := by rw [prC, if_neg h4, if_neg (by omega)]
      rw [ep] at hpl
      have hpl2 : (prL L0).length = (prL pre).length + (1 + (prL rest).length) := hpl
      exact h132 _ (by rw [List.length_append]; omega) (by rw [ep])
set_option maxHeartbeats 400000 in
set_option maxRecDepth 100000 in
theorem c_sayName (d L B1 B2 : Nat) (fi : Nat → Nat → Int) (ai aj : Nat → Int → Int) (n : Int) (x : PT) (l : List Int) (hn : 0 ≤ n ∧ n < 18) (hx : RepQ (ai 133) (ai 134) (ai 135) (ai 136) n x) (hk : x.1 = 0 ∨ x.1 = 1 ∨ x.1 = 2) (h0 : x.1 = 0 → x.2.2.length ≤ 30 ∧ ∀ q ∈ x.2.2, okC 4 q) (h1 : x.1 ≠ 0 → 0 ≤ x.2.1 ∧ x.2.1 ≤ 9999) (hl : l.length + (prP x).length ≤ 5000) : am_M am_prog (d + 4) m_Mo_sayName [.inr (.inr 126), .inl n] (HQ L B1 B2 fi ai aj l) (fun w h' => w = none ∧ h' = HQ L B1 B2 fi ai aj (l ++ prP x)) := by
  obtain ⟨r1, r2, r3⟩ := hx
  have e50 : ∀ l, am_ai (HQ L B1 B2 fi ai aj l) (am_fr (HQ L B1 B2 fi ai aj l) 63 126) n = x.1 := fun l => r1
  have e51 : x.1 ≠ 0 → ∀ l, am_ai (HQ L B1 B2 fi ai aj l) (am_fr (HQ L B1 B2 fi ai aj l) 64 126) n = x.2.1 := fun q l => r2 q
  have ok3 : ∀ l, am_okr (HQ L B1 B2 fi ai aj l) (am_fr (HQ L B1 B2 fi ai aj l) 63 126) 1000 n := fun l => okrI rfl rfl (t := 1000) (N := 18) rfl rfl hn.1 (by omega)
  have ok4 : ∀ l, am_okr (HQ L B1 B2 fi ai aj l) (am_fr (HQ L B1 B2 fi ai aj l) 64 126) 1000 n := fun l => okrI rfl rfl (t := 1000) (N := 18) rfl rfl hn.1 (by omega)
  refine am_W.of rfl rfl ?_
  unfold prP at hl ⊢
  refine am_W.br rfl rfl ⟨⟨⟨trivial, HQ_ok _ _ _ _ _ _ _⟩, ok3 _⟩, by rw [e50]; exact ⟨by omega, by omega⟩⟩ (fun c1 => ?_) (fun c1 => ?_)
  · rw [e50] at c1
    have c1' : x.1 = 0 := by omega
    rw [if_pos c1'] at hl ⊢
    rw [List.length_append, List.length_singleton] at hl
    have hr3 := r3 c1'
    obtain ⟨h30, hok⟩ := h0 c1'
    refine am_W.cv 10 m_Mo_say rfl rfl rfl rfl ⟨trivial, HQ_ok _ _ _ _ _ _ _⟩ (c_say (d + 2) L B1 B2 fi ai aj l 34 (by omega) (by omega)) ?_
    rintro r1 h1 ⟨rfl, rfl⟩
    have hw := l_sayName (d + 1) L B1 B2 fi ai aj n hn x.2.2 (l ++ [34]) hr3.1 h30 hr3.2 hok (by rw [List.length_append, List.length_singleton]; omega) x.2.2 [] 0 none rfl rfl
    rw [show prL [] = [] from rfl, List.append_nil, List.append_assoc] at hw
    exact am_W.gp 49 rfl trivial hw
  · rw [e50] at c1
    have c0 : ¬ x.1 = 0 := by omega
    rw [if_neg c0] at hl ⊢
    rw [List.length_append, List.length_singleton] at hl
    have hl2 : l.length + (1 + (dgs x.2.1 ++ [32]).length) ≤ 5000 := hl
    have hnum : ∀ b : Int, (-128 ≤ b ∧ b < 128) → am_W (am_ev am_prog (d + 3)) T_Mo_sayName (fun w h' => w = none ∧ h' = HQ L B1 B2 fi ai aj (l ++ ([b] ++ (dgs x.2.1 ++ [32])))) (27, [some (.inr (.inr 126)), some (.inl n), none, none], [.inl b, .inr (.inr 126)], HQ L B1 B2 fi ai aj l) := by
      intro b hb
      refine am_W.cv 10 m_Mo_say rfl rfl rfl rfl ⟨trivial, HQ_ok _ _ _ _ _ _ _⟩ (c_say (d + 2) L B1 B2 fi ai aj l b (by omega) hb) ?_
      rintro r1 h1 ⟨rfl, rfl⟩
      refine am_W.cv 10 m_Mo_sayNumber rfl rfl rfl rfl ⟨⟨⟨trivial, HQ_ok _ _ _ _ _ _ _⟩, ok4 _⟩, HQ_ok _ _ _ _ _ _ _⟩ (by rw [e51 c0]; exact c_sayNumber d L B1 B2 fi ai aj (l ++ [b]) x.2.1 (h1 c0) (by rw [List.length_append, List.length_singleton]; omega)) ?_
      rintro r1 h1 ⟨rfl, rfl⟩
      rw [List.append_assoc]
      exact am_W.rt rfl rfl ⟨trivial, trivial⟩ ⟨rfl, rfl⟩
    refine am_W.br rfl rfl ⟨⟨⟨trivial, HQ_ok _ _ _ _ _ _ _⟩, ok3 _⟩, by rw [e50]; exact ⟨by omega, by omega⟩, ⟨by omega, by omega⟩⟩ (fun c2 => ?_) (fun c2 => ?_)
    · rw [e50] at c2
      rw [if_neg c2]
      exact am_W.gp 27 rfl trivial (hnum 36 (by omega))
    · rw [e50] at c2
      rw [if_pos (by omega)]
      exact am_W.gp 27 rfl trivial (hnum 95 (by omega))
