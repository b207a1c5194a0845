-- the reference: sizes of names
def szQ (D : DT) (s r : Int) (y : PT) (h : am_H) : Option am_V → am_H → Prop := fun w h' => ((nnP D s r y ∧ w = some (.inl ((tbP D s r y).length : Int))) ∨ (¬ nnP D s r y ∧ w = some (.inl (-1)))) ∧ h' = h
def prt (D : DT) (s : Int) (y : PT) : Prop := (y.1 = 0 ∨ y.1 = 1 ∨ y.1 = 2) ∧ (y.1 = 0 → y.2.2.length ≤ 30 ∧ ∀ q ∈ y.2.2, okC (co D s) q) ∧ (y.1 ≠ 0 → 0 ≤ y.2.1 ∧ y.2.1 < co D s)
theorem rp_c {k p : Int} (hk : k ≤ 4) (h : okC k p) : (p < 4 ∧ rp p = 256 + p ∧ 0 ≤ p ∧ p < k) ∨ (¬ p < 4 ∧ rp p = p ∧ 32 ≤ p ∧ p ≤ 126) := by
  unfold rp
  rcases h with h | h
  · rw [if_pos (by omega)]
    exact Or.inl ⟨by omega, rfl, h.1, h.2⟩
  · rw [if_neg (by omega)]
    exact Or.inr ⟨by omega, rfl, h.1, h.2⟩
set_option maxHeartbeats 400000 in
set_option maxRecDepth 100000 in
theorem l_sizeOf (d L B1 B2 : Nat) (fi : Nat → Nat → Int) (ai aj : Nat → Int → Int) (m n k s row : Int) (hk : 0 ≤ k ∧ k < 18) (hI : DI (DM fi ai)) (hr : 0 ≤ row ∧ row < ro (DM fi ai) s) (L0 : List Int) (h53 : ai 135 k = (L0.length : Int)) (h30 : L0.length ≤ 30) (hpc : ∀ i : Nat, i < L0.length → ai 136 (30 * k + (i : Int)) = rp (L0.getD i 0)) (hok : ∀ x ∈ L0, okC (co (DM fi ai) s) x) : ∀ (rest pre : List Int) (i : Int) (l8 l9 : Option am_V), L0 = pre ++ rest → i = (pre.length : Int) → (∀ x ∈ pre, x < 4 → ce (DM fi ai) s row x ≠ -1) → am_W (am_ev am_prog (d + 1)) T_Mo_sizeOf (fun w h' => (((∀ x ∈ L0, x < 4 → ce (DM fi ai) s row x ≠ -1) ∧ w = some (.inl ((tpL (DM fi ai) s row L0).length : Int))) ∨ (¬ (∀ x ∈ L0, x < 4 → ce (DM fi ai) s row x ≠ -1) ∧ w = some (.inl (-1)))) ∧ h' = HH L B1 B2 fi ai aj) (80, [some (.inr (.inr 126)), some (.inl m), some (.inl n), some (.inl row), some (.inl s), some (.inl k), some (.inl ((tpL (DM fi ai) s row pre).length : Int)), some (.inl i), l8, l9], [], HH L B1 B2 fi ai aj) := by
  have hco := co_in s hI
  have ok126 : am_ok (HH L B1 B2 fi ai aj) 126 10 := okI rfl rfl rfl
  have o5 : am_okr (HH L B1 B2 fi ai aj) (am_fr (HH L B1 B2 fi ai aj) 65 126) 1000 k := ok18 fi ai aj rfl rfl rfl hk
  have e5 : am_ai (HH L B1 B2 fi ai aj) (am_fr (HH L B1 B2 fi ai aj) 65 126) k = (L0.length : Int) := h53
  have hok4 : ∀ x ∈ L0, okC 4 x := fun x hx => okC_mo (by omega) (hok x hx)
  intro rest
  induction rest with
  | nil =>
    intro pre i l8 l9 hL hi hq
    rw [List.append_nil] at hL
    subst hL
    have hb := (tpL_b (D := DM fi ai) (s := s) (r := row) hI L0 hok4 hq).2
    refine am_W.br rfl rfl ⟨⟨⟨trivial, ok126⟩, o5⟩, ⟨by omega, by omega⟩, by rw [e5]; exact ⟨by omega, by omega⟩⟩ (fun c => ?_) (fun c => absurd c (by rw [e5]; omega))
    exact am_W.rt rfl rfl ⟨trivial, trivial⟩ ⟨Or.inl ⟨hq, rfl⟩, rfl⟩
  | cons x rest ih =>
    intro pre i l8 l9 hL hi hq
    have hlen : L0.length = pre.length + (rest.length + 1) := by rw [hL, List.length_append, List.length_cons]
    have hx : L0.getD pre.length 0 = x := by
      rw [hL, List.getD_eq_getElem?_getD, List.getElem?_append_right (Nat.le_refl _), Nat.sub_self]
      rfl
    have hxm : x ∈ L0 := by rw [hL]; exact List.mem_append_right _ (List.mem_cons_self ..)
    have hb := (tpL_b (D := DM fi ai) (s := s) (r := row) hI pre (fun z hz => hok4 z (by rw [hL]; exact List.mem_append_left _ hz)) hq).2
    have hcx := ce_in s row x hI
    have o6 : am_okr (HH L B1 B2 fi ai aj) (am_fr (HH L B1 B2 fi ai aj) 66 126) 1000 (30 * k + i) := okrI rfl rfl (t := 1000) (N := 540) rfl rfl (by omega) (by omega)
    have e6 : am_ai (HH L B1 B2 fi ai aj) (am_fr (HH L B1 B2 fi ai aj) 66 126) (30 * k + i) = rp x := by
      show ai 136 (30 * k + i) = rp x
      rw [hi, hpc _ (by omega), hx]
    have hgo : (x < 4 → ce (DM fi ai) s row x ≠ -1) → ∀ (l8 l9 : Option am_V), am_W (am_ev am_prog (d + 1)) T_Mo_sizeOf (fun w h' => (((∀ x ∈ L0, x < 4 → ce (DM fi ai) s row x ≠ -1) ∧ w = some (.inl ((tpL (DM fi ai) s row L0).length : Int))) ∨ (¬ (∀ x ∈ L0, x < 4 → ce (DM fi ai) s row x ≠ -1) ∧ w = some (.inl (-1)))) ∧ h' = HH L B1 B2 fi ai aj) (80, [some (.inr (.inr 126)), some (.inl m), some (.inl n), some (.inl row), some (.inl s), some (.inl k), some (.inl (((tpL (DM fi ai) s row pre).length : Int) + ((tpC (DM fi ai) s row x).length : Int))), some (.inl (i + 1)), l8, l9], [], HH L B1 B2 fi ai aj) := by
      intro hx2 l8 l9
      have e : ((tpL (DM fi ai) s row pre).length : Int) + ((tpC (DM fi ai) s row x).length : Int) = ((tpL (DM fi ai) s row (pre ++ [x])).length : Int) := by
        rw [tpL_app, List.length_append]
        show _ = (((tpL (DM fi ai) s row pre).length + (tpC (DM fi ai) s row x ++ []).length : Nat) : Int)
        rw [List.append_nil]
        omega
      rw [e]
      refine ih (pre ++ [x]) (i + 1) l8 l9 (by rw [hL, List.append_assoc]; rfl) (by rw [List.length_append, List.length_singleton]; omega) ?_
      intro z hz
      rcases List.mem_append.mp hz with h | h
      · exact hq z h
      · rw [List.mem_singleton.mp h]
        exact hx2
    refine am_W.br rfl rfl ⟨⟨⟨trivial, ok126⟩, o5⟩, ⟨by omega, by omega⟩, by rw [e5]; exact ⟨by omega, by omega⟩⟩ (fun c => absurd c (by rw [e5]; omega)) (fun c => ?_)
    refine am_W.br rfl rfl ⟨trivial, ⟨by omega, by omega⟩, ⟨by omega, by omega⟩⟩ (fun c1 => absurd c1 (by omega)) (fun c1 => ?_)
    refine am_W.gp 113 rfl ⟨⟨trivial, ok126⟩, o6⟩ ?_
    rw [e6]
    unfold tpC at hgo
    rcases rp_c hco.2.1 (hok x hxm) with ⟨h4, hrp, hx0, hx1⟩ | ⟨h4, hrp, hx0, hx1⟩
    · rw [hrp]
      rw [if_pos h4] at hgo
      refine am_W.br rfl rfl ⟨trivial, ⟨by omega, by omega⟩, ⟨by omega, by omega⟩⟩ (fun c2 => ?_) (fun c2 => absurd (by omega) c2)
      refine am_W.cv 10 m_Mo_cell rfl rfl rfl rfl ⟨trivial, ok126⟩ (by rw [show 256 + x - 256 = x by omega]; exact c_mcell d L B1 B2 fi ai aj s row x hI hr ⟨hx0, hx1⟩) ?_
      rintro r1 h1 ⟨rfl, rfl⟩
      refine am_W.br rfl rfl ⟨trivial, ⟨by omega, by omega⟩, ⟨by omega, by omega⟩⟩ (fun c3 => ?_) (fun c3 => ?_)
      · refine am_W.br rfl rfl ⟨trivial, ⟨by omega, by omega⟩, ⟨by omega, by omega⟩⟩ (fun c4 => ?_) (fun c4 => absurd (by omega) c4)
        refine am_W.cs rfl rfl rfl trivial (c_digits d _ _ (by omega)) ?_
        rintro r1 h1 ⟨rfl, rfl⟩
        exact am_W.gp 80 rfl trivial (hgo (fun _ => c3) _ _)
      · refine am_W.gp 80 rfl trivial ?_
        have hlast : ¬ (∀ x ∈ L0, x < 4 → ce (DM fi ai) s row x ≠ -1) := fun z => z x hxm h4 (by omega)
        have hend : am_W (am_ev am_prog (d + 1)) T_Mo_sizeOf (fun w h' => (((∀ x ∈ L0, x < 4 → ce (DM fi ai) s row x ≠ -1) ∧ w = some (.inl ((tpL (DM fi ai) s row L0).length : Int))) ∨ (¬ (∀ x ∈ L0, x < 4 → ce (DM fi ai) s row x ≠ -1) ∧ w = some (.inl (-1)))) ∧ h' = HH L B1 B2 fi ai aj) (178, [some (.inr (.inr 126)), some (.inl m), some (.inl n), some (.inl row), some (.inl s), some (.inl k), some (.inl (-1)), some (.inl (i + 1)), some (.inl (256 + x)), some (.inl (ce (DM fi ai) s row x))], [], HH L B1 B2 fi ai aj) := am_W.rt rfl rfl ⟨trivial, trivial⟩ ⟨Or.inr ⟨hlast, rfl⟩, rfl⟩
        refine am_W.br rfl rfl ⟨⟨⟨trivial, ok126⟩, o5⟩, ⟨by omega, by omega⟩, by rw [e5]; exact ⟨by omega, by omega⟩⟩ (fun c4 => hend) (fun c4 => ?_)
        exact am_W.br rfl rfl ⟨trivial, ⟨by omega, by omega⟩, ⟨by omega, by omega⟩⟩ (fun c5 => hend) (fun c5 => absurd rfl c5)
    · rw [hrp]
      rw [if_neg h4] at hgo
      refine am_W.br rfl rfl ⟨trivial, ⟨by omega, by omega⟩, ⟨by omega, by omega⟩⟩ (fun c2 => absurd c2 (by omega)) (fun c2 => ?_)
      refine am_W.br rfl rfl ⟨trivial, ⟨by omega, by omega⟩, ⟨by omega, by omega⟩⟩ (fun c3 => ?_) (fun c3 => absurd (by decide) c3)
      refine am_W.br rfl rfl ⟨trivial, ⟨by omega, by omega⟩, ⟨by omega, by omega⟩⟩ (fun c4 => absurd c4 (by omega)) (fun c4 => ?_)
      exact am_W.gp 80 rfl trivial (hgo (fun z => absurd z h4) _ _)
set_option maxHeartbeats 400000 in
set_option maxRecDepth 100000 in
theorem c_sizeOf (d L B1 B2 : Nat) (fi : Nat → Nat → Int) (ai aj : Nat → Int → Int) (m n row : Int) (x : MT) (y : PT) (hm : 0 ≤ m ∧ m < 6) (hn : 0 ≤ n ∧ n < 3) (hs : ai 132 m = x.1) (hy : RepQ (ai 133) (ai 134) (ai 135) (ai 136) (3 * m + n) y) (hp : prt (DM fi ai) x.1 y) (hI : DI (DM fi ai)) (hr : 0 ≤ row ∧ row < ro (DM fi ai) x.1) : am_M am_prog (d + 2) m_Mo_sizeOf [.inr (.inr 126), .inl m, .inl n, .inl row] (HH L B1 B2 fi ai aj) (szQ (DM fi ai) x.1 row y (HH L B1 B2 fi ai aj)) := by
  obtain ⟨r1, r2, r3⟩ := hy
  obtain ⟨q1, q2, q3⟩ := hp
  have hro := ro_in x.1 hI
  have hsr := hro.2.2 (by omega)
  have hn4 := hI.1
  have ok126 : am_ok (HH L B1 B2 fi ai aj) 126 10 := okI rfl rfl rfl
  have oS : am_okr (HH L B1 B2 fi ai aj) (am_fr (HH L B1 B2 fi ai aj) 62 126) 1000 m := ok6 fi ai aj rfl rfl rfl hm
  have o3 : am_okr (HH L B1 B2 fi ai aj) (am_fr (HH L B1 B2 fi ai aj) 63 126) 1000 (3 * m + n) := ok18 fi ai aj rfl rfl rfl ⟨by omega, by omega⟩
  have o4 : am_okr (HH L B1 B2 fi ai aj) (am_fr (HH L B1 B2 fi ai aj) 64 126) 1000 (3 * m + n) := ok18 fi ai aj rfl rfl rfl ⟨by omega, by omega⟩
  have eS : am_ai (HH L B1 B2 fi ai aj) (am_fr (HH L B1 B2 fi ai aj) 62 126) m = x.1 := hs
  have e3 : am_ai (HH L B1 B2 fi ai aj) (am_fr (HH L B1 B2 fi ai aj) 63 126) (3 * m + n) = y.1 := r1
  refine am_W.of rfl rfl ?_
  refine am_W.gp 15 rfl ⟨⟨trivial, ok126⟩, oS⟩ ?_
  rw [eS]
  unfold szQ nnP tbP
  refine am_W.br rfl rfl ⟨⟨⟨trivial, ok126⟩, o3⟩, by rw [e3]; exact ⟨by omega, by omega⟩⟩ (fun c => ?_) (fun c => ?_)
  · rw [e3] at c
    have c0 : y.1 = 0 := by omega
    rw [if_pos c0, if_pos c0]
    exact am_W.gp 80 rfl trivial (l_sizeOf d L B1 B2 fi ai aj m n (3 * m + n) x.1 row ⟨by omega, by omega⟩ hI hr y.2.2 (r3 c0).1 (q2 c0).1 (r3 c0).2 (q2 c0).2 y.2.2 [] 0 none none rfl rfl (fun z hz => by cases hz))
  · rw [e3] at c
    have c0 : ¬ y.1 = 0 := by omega
    have e4 : am_ai (HH L B1 B2 fi ai aj) (am_fr (HH L B1 B2 fi ai aj) 64 126) (3 * m + n) = y.2.1 := r2 c0
    have hcx := ce_in x.1 row y.2.1 hI
    rw [if_neg c0, if_neg c0]
    refine am_W.cv 10 m_Mo_cell rfl rfl rfl rfl ⟨⟨⟨trivial, ok126⟩, o4⟩, ok126⟩ (by rw [e4]; exact c_mcell d L B1 B2 fi ai aj x.1 row y.2.1 hI hr (q3 c0)) ?_
    rintro r1 h1 ⟨rfl, rfl⟩
    refine am_W.br rfl rfl ⟨trivial, ⟨by omega, by omega⟩, ⟨by omega, by omega⟩⟩ (fun c1 => ?_) (fun c1 => ?_)
    · refine am_W.cs rfl rfl rfl trivial (c_digits d _ _ (by omega)) ?_
      rintro r1 h1 ⟨rfl, rfl⟩
      refine am_W.br rfl rfl ⟨⟨⟨trivial, ok126⟩, o3⟩, by rw [e3]; exact ⟨by omega, by omega⟩, ⟨by omega, by omega⟩⟩ (fun c2 => ?_) (fun c2 => ?_)
      · rw [e3] at c2
        rw [if_neg c2, List.nil_append]
        refine am_W.rt rfl rfl ⟨trivial, trivial⟩ ⟨Or.inl ⟨c1, ?_⟩, rfl⟩
        exact congrArg (fun z => some (Sum.inl z)) (by omega)
      · rw [e3] at c2
        rw [if_pos (by omega)]
        refine am_W.rt rfl rfl ⟨trivial, trivial⟩ ⟨Or.inl ⟨c1, ?_⟩, rfl⟩
        have hd1 : (dgs x.1).length = 1 := by
          rw [dgs_len, if_neg (by omega), if_neg (by omega), if_neg (by omega)]
        rw [List.length_append, List.length_append, List.length_singleton, hd1]
        congr 2
        omega
    · exact am_W.rt rfl rfl ⟨trivial, trivial⟩ ⟨Or.inr ⟨fun z => z (by omega), rfl⟩, rfl⟩
