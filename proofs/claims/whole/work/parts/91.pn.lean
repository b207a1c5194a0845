-- the reference: numbers and terms written
def wrt (g0 : Int → Int) (p : Int) (l : List Int) (g : Int → Int) : Prop := (∀ i : Nat, i < l.length → g (p + (i : Int)) = l.getD i 0) ∧ (∀ j, j < p ∨ p + (l.length : Int) ≤ j → g j = g0 j)
theorem wrt_nil {g : Int → Int} {p : Int} : wrt g p [] g := ⟨fun i h => absurd h (Nat.not_lt_zero i), fun _ _ => rfl⟩
theorem wrt_app {g0 g1 g2 : Int → Int} {p : Int} {a b : List Int} (h1 : wrt g0 p a g1) (h2 : wrt g1 (p + (a.length : Int)) b g2) : wrt g0 p (a ++ b) g2 := by
  constructor
  · intro i hi
    rw [List.length_append] at hi
    by_cases h : i < a.length
    · rw [h2.2 _ (by omega), h1.1 i h, List.getD_eq_getElem?_getD, List.getD_eq_getElem?_getD, List.getElem?_append_left h]
    · have := h2.1 (i - a.length) (by omega)
      rw [show p + (a.length : Int) + ((i - a.length : Nat) : Int) = p + (i : Int) by omega] at this
      rw [this, List.getD_eq_getElem?_getD, List.getD_eq_getElem?_getD, List.getElem?_append_right (by omega)]
  · intro j hj
    rw [List.length_append] at hj
    rw [h2.2 j (by omega), h1.2 j (by omega)]
theorem wrt_one {g : Int → Int} {p v : Int} : wrt g p [v] (up g p v) := by
  constructor
  · intro i hi
    have h0 : i = 0 := by
      have : [v].length = 1 := rfl
      omega
    subst h0
    show up g p v (p + 0) = v
    rw [Int.add_zero, up_s]
  · intro j hj
    refine up_n _ _ ?_
    have : [v].length = 1 := rfl
    omega
/-- one digit before others -/
theorem wrt_pre {g0 g1 : Int → Int} {p v : Int} {l : List Int} (h : wrt g0 (p + 1) l g1) : wrt g0 p (v :: l) (up g1 p v) := by
  constructor
  · intro i hi
    cases i with
    | zero =>
      show up g1 p v (p + 0) = v
      rw [Int.add_zero, up_s]
    | succ i =>
      rw [up_n _ _ (by omega), show p + ((i + 1 : Nat) : Int) = p + 1 + (i : Int) by omega, h.1 i (by simpa using hi)]
      rfl
  · intro j hj
    rw [List.length_cons] at hj
    rw [up_n _ _ (by omega), h.2 j (by omega)]
set_option maxHeartbeats 400000 in
set_option maxRecDepth 100000 in
theorem c_mputNumber (d L B1 B2 : Nat) (fi : Nat → Nat → Int) (ai aj : Nat → Int → Int) (p v : Int) (hp : 0 ≤ p ∧ p + 4 ≤ 96000) (hv : 0 ≤ v ∧ v ≤ 9999) : am_M am_prog (d + 2) m_Mo_putNumber [.inr (.inr 126), .inl p, .inl v] (HH L B1 B2 fi ai aj) (fun w h' => w = some (.inl (p + ((dgs v).length : Int))) ∧ ∃ g, h' = HH L B1 B2 fi (am_sa ai 156 g) aj ∧ wrt (ai 156) p (dgs v) g) := by
  have hstep : ∀ (Q : Option am_V → am_H → Prop) (n r k : Int) (g : Int → Int), 0 ≤ k ∧ k < 4 → 0 ≤ r ∧ r ≤ 9999 → am_W (am_ev am_prog (d + 1)) T_Mo_putNumber Q (13, [some (.inr (.inr 126)), some (.inl p), some (.inl v), some (.inl n), some (.inl (r / 10)), some (.inl (k - 1))], [], HH L B1 B2 fi (am_sa ai 156 (up g (p + k) (48 + r % 10))) aj) → am_W (am_ev am_prog (d + 1)) T_Mo_putNumber Q (13, [some (.inr (.inr 126)), some (.inl p), some (.inl v), some (.inl n), some (.inl r), some (.inl k)], [], HH L B1 B2 fi (am_sa ai 156 g) aj) := by
    intro Q n r k g hk hr w
    have e1 : r.tmod 10 = r % 10 := Int.tmod_eq_emod_of_nonneg hr.1
    have e2 : r.tdiv 10 = r / 10 := Int.tdiv_eq_ediv_of_nonneg hr.1
    refine am_W.br rfl rfl ⟨trivial, ⟨by omega, by omega⟩⟩ (fun c1 => absurd c1 (by omega)) (fun c1 => ?_)
    refine am_W.gp 13 rfl (by simp only [HS, FRS, e1, e2]; exact (by and_intros <;> first | trivial | exact okI rfl rfl rfl | (refine okrI rfl rfl rfl rfl ?_ ?_ <;> (first | omega | (simp only [HS, FRS, CCS, am_R] at *; omega))) | (refine okaI rfl rfl rfl rfl ?_ ?_ <;> (first | omega | (simp only [HS, FRS, CCS, am_R] at *; omega))) | (first | omega | (simp only [HS, FRS, CCS, am_R] at *; omega)) | (simp only [HS, FRS, CCS]))) ?_
    simp only [HS, FRS, e1, e2, u2sa]
    exact w
  have hend : ∀ (n r : Int) (g : Int → Int), (n = ((dgs v).length : Int)) → wrt (ai 156) p (dgs v) g → am_W (am_ev am_prog (d + 1)) T_Mo_putNumber (fun w h' => w = some (.inl (p + ((dgs v).length : Int))) ∧ ∃ g, h' = HH L B1 B2 fi (am_sa ai 156 g) aj ∧ wrt (ai 156) p (dgs v) g) (13, [some (.inr (.inr 126)), some (.inl p), some (.inl v), some (.inl n), some (.inl r), some (.inl (-1))], [], HH L B1 B2 fi (am_sa ai 156 g) aj) := by
    intro n r g hn hw
    have h4 := dgs_4 v
    refine am_W.br rfl rfl ⟨trivial, ⟨by omega, by omega⟩⟩ (fun c1 => ?_) (fun c1 => absurd c1 (by omega))
    exact am_W.rt rfl rfl ⟨trivial, trivial⟩ ⟨by rw [hn], g, rfl, hw⟩
  have hl := dgs_len v
  have h0 : HH L B1 B2 fi ai aj = HH L B1 B2 fi (am_sa ai 156 (ai 156)) aj := by rw [sa_id]
  have h13 : am_W (am_ev am_prog (d + 1)) T_Mo_putNumber (fun w h' => w = some (.inl (p + ((dgs v).length : Int))) ∧ ∃ g, h' = HH L B1 B2 fi (am_sa ai 156 g) aj ∧ wrt (ai 156) p (dgs v) g) (13, [some (.inr (.inr 126)), some (.inl p), some (.inl v), some (.inl ((dgs v).length : Int)), some (.inl v), some (.inl (((dgs v).length : Int) - 1))], [], HH L B1 B2 fi ai aj) := by
    rw [h0]
    by_cases h3 : 1000 ≤ v
    · rw [if_pos h3] at hl
      have ed : dgs v = [48 + v / 1000 % 10, 48 + v / 100 % 10, 48 + v / 10 % 10, 48 + v % 10] := by
        unfold dgs
        rw [if_pos (by omega), if_pos (by omega), if_pos (by omega)]
        rfl
      rw [show ((dgs v).length : Int) - 1 = 3 by omega]
      refine hstep _ _ _ 3 _ (by omega) (by omega) (hstep _ _ _ 2 _ (by omega) (by omega) (hstep _ _ _ 1 _ (by omega) (by omega) (hstep _ _ _ 0 _ (by omega) (by omega) (hend _ _ _ rfl ?_))))
      rw [ed, show p + 0 = p by omega, show v / 10 / 10 / 10 = v / 1000 by omega, show v / 10 / 10 = v / 100 by omega, show p + 3 = p + 1 + 1 + 1 by omega, show p + 2 = p + 1 + 1 by omega]
      exact wrt_pre (wrt_pre (wrt_pre wrt_one))
    · rw [if_neg h3] at hl
      by_cases h2 : 100 ≤ v
      · rw [if_pos h2] at hl
        have ed : dgs v = [48 + v / 100 % 10, 48 + v / 10 % 10, 48 + v % 10] := by
          unfold dgs
          rw [if_neg (by omega), if_pos (by omega), if_pos (by omega)]
          rfl
        rw [show ((dgs v).length : Int) - 1 = 2 by omega]
        refine hstep _ _ _ 2 _ (by omega) (by omega) (hstep _ _ _ 1 _ (by omega) (by omega) (hstep _ _ _ 0 _ (by omega) (by omega) (hend _ _ _ rfl ?_)))
        rw [ed, show p + 0 = p by omega, show v / 10 / 10 = v / 100 by omega, show p + 2 = p + 1 + 1 by omega]
        exact wrt_pre (wrt_pre wrt_one)
      · rw [if_neg h2] at hl
        by_cases h1 : 10 ≤ v
        · rw [if_pos h1] at hl
          have ed : dgs v = [48 + v / 10 % 10, 48 + v % 10] := by
            unfold dgs
            rw [if_neg (by omega), if_neg (by omega), if_pos (by omega)]
            rfl
          rw [show ((dgs v).length : Int) - 1 = 1 by omega]
          refine hstep _ _ _ 1 _ (by omega) (by omega) (hstep _ _ _ 0 _ (by omega) (by omega) (hend _ _ _ rfl ?_))
          rw [ed, show p + 0 = p by omega]
          exact wrt_pre wrt_one
        · rw [if_neg h1] at hl
          have ed : dgs v = [48 + v % 10] := by
            unfold dgs
            rw [if_neg (by omega), if_neg (by omega), if_neg (by omega)]
            rfl
          rw [show ((dgs v).length : Int) - 1 = 0 by omega]
          refine hstep _ _ _ 0 _ (by omega) (by omega) (hend _ _ _ rfl ?_)
          rw [ed, show p + 0 = p by omega]
          exact wrt_one
  refine am_W.of rfl rfl ?_
  refine am_W.cs rfl rfl rfl trivial (c_digits d _ _ hv) ?_
  rintro r1 h1 ⟨rfl, rfl⟩
  have h4 := dgs_4 v
  exact am_W.gp 13 rfl trivial h13
def ptU (D : DT) (x : MT) (y : PT) (row jd : Int) (l : List Int) : Prop := (y.1 = 2 ∧ jd ≠ -1 → (0 ≤ jd ∧ jd < ro D x.2.2.2.2.1.1) ∧ (0 ≤ y.2.1 ∧ y.2.1 < co D x.2.2.2.2.1.1) ∧ ce D x.2.2.2.2.1.1 jd y.2.1 ≠ -1 ∧ l = dgs (ce D x.2.2.2.2.1.1 jd y.2.1)) ∧ (¬ (y.1 = 2 ∧ jd ≠ -1) → prt D x.1 y ∧ nnP D x.1 row y ∧ l = tbP D x.1 row y)
theorem DM_156 (fi : Nat → Nat → Int) (ai : Nat → Int → Int) (g : Int → Int) : DM fi (am_sa ai 156 g) = DM fi ai := rfl
set_option maxHeartbeats 400000 in
set_option maxRecDepth 100000 in
theorem l_mputTerm (d L B1 B2 : Nat) (fi : Nat → Nat → Int) (ai aj : Nat → Int → Int) (m n k s row jd b9 : Int) (hk : 0 ≤ k ∧ k < 18) (hI : DI (DM fi ai)) (hr : 0 ≤ row ∧ row < ro (DM fi ai) s) (L0 : List Int) (h53 : ai 135 k = (L0.length : Int)) (h30 : L0.length ≤ 30) (hpc : ∀ i : Nat, i < L0.length → ai 136 (30 * k + (i : Int)) = rp (L0.getD i 0)) (hok : ∀ x ∈ L0, okC (co (DM fi ai) s) x) (hnn : ∀ x ∈ L0, x < 4 → ce (DM fi ai) s row x ≠ -1) (p : Int) (hp : 0 ≤ p ∧ p + 120 ≤ 96000) (Q : Option am_V → am_H → Prop) (w : ∀ g, wrt (ai 156) p (tpL (DM fi ai) s row L0) g → ∀ l9 l10 : Option am_V, am_W (am_ev am_prog (d + 2)) T_Mo_putTerm Q (239, [some (.inr (.inr 126)), some (.inl m), some (.inl n), some (.inl row), some (.inl jd), some (.inl k), some (.inl p), some (.inl (p + ((tpL (DM fi ai) s row L0).length : Int))), some (.inl s), l9, l10], [], HH L B1 B2 fi (am_sa ai 156 g) aj)) : ∀ (rest pre : List Int) (i : Int) (g : Int → Int) (l10 : Option am_V), L0 = pre ++ rest → i = (pre.length : Int) → wrt (ai 156) p (tpL (DM fi ai) s row pre) g → am_W (am_ev am_prog (d + 2)) T_Mo_putTerm Q (46, [some (.inr (.inr 126)), some (.inl m), some (.inl n), some (.inl row), some (.inl jd), some (.inl k), some (.inl p), some (.inl (p + ((tpL (DM fi ai) s row pre).length : Int))), some (.inl s), some (.inl i), l10], [], HH L B1 B2 fi (am_sa ai 156 g) aj) := by
  have hco := co_in s hI
  have hok4 : ∀ x ∈ L0, okC 4 x := fun x hx => okC_mo (by omega) (hok x hx)
  intro rest
  induction rest with
  | nil =>
    intro pre i g l10 hL hi hg
    rw [List.append_nil] at hL
    subst hL
    have ok126 : am_ok (HH L B1 B2 fi (am_sa ai 156 g) aj) 126 10 := okI rfl rfl rfl
    have o5 : am_okr (HH L B1 B2 fi (am_sa ai 156 g) aj) (am_fr (HH L B1 B2 fi (am_sa ai 156 g) aj) 65 126) 1000 k := ok18 fi _ aj rfl rfl rfl hk
    have e5 : am_ai (HH L B1 B2 fi (am_sa ai 156 g) aj) (am_fr (HH L B1 B2 fi (am_sa ai 156 g) aj) 65 126) k = (L0.length : Int) := h53
    refine am_W.br rfl rfl ⟨⟨⟨trivial, ok126⟩, o5⟩, ⟨by omega, by omega⟩, by rw [e5]; exact ⟨by omega, by omega⟩⟩ (fun c => ?_) (fun c => absurd c (by rw [e5]; omega))
    exact am_W.gp 239 rfl trivial (w g hg _ _)
  | cons x rest ih =>
    intro pre i g l10 hL hi hg
    have hlen : L0.length = pre.length + (rest.length + 1) := by rw [hL, List.length_append, List.length_cons]
    have hx : L0.getD pre.length 0 = x := by
      rw [hL, List.getD_eq_getElem?_getD, List.getElem?_append_right (Nat.le_refl _), Nat.sub_self]
      rfl
    have hxm : x ∈ L0 := by rw [hL]; exact List.mem_append_right _ (List.mem_cons_self ..)
    have hb := (tpL_b (D := DM fi ai) (s := s) (r := row) hI pre (fun z hz => hok4 z (by rw [hL]; exact List.mem_append_left _ hz)) (fun z hz => hnn z (by rw [hL]; exact List.mem_append_left _ hz))).2
    have hcx := ce_in s row x hI
    have ok126 : am_ok (HH L B1 B2 fi (am_sa ai 156 g) aj) 126 10 := okI rfl rfl rfl
    have o5 : am_okr (HH L B1 B2 fi (am_sa ai 156 g) aj) (am_fr (HH L B1 B2 fi (am_sa ai 156 g) aj) 65 126) 1000 k := ok18 fi _ aj rfl rfl rfl hk
    have e5 : am_ai (HH L B1 B2 fi (am_sa ai 156 g) aj) (am_fr (HH L B1 B2 fi (am_sa ai 156 g) aj) 65 126) k = (L0.length : Int) := h53
    have o6 : am_okr (HH L B1 B2 fi (am_sa ai 156 g) aj) (am_fr (HH L B1 B2 fi (am_sa ai 156 g) aj) 66 126) 1000 (30 * k + i) := okrI rfl rfl (t := 1000) (N := 540) rfl rfl (by omega) (by omega)
    have e6 : am_ai (HH L B1 B2 fi (am_sa ai 156 g) aj) (am_fr (HH L B1 B2 fi (am_sa ai 156 g) aj) 66 126) (30 * k + i) = rp x := by
      show ai 136 (30 * k + i) = rp x
      rw [hi, hpc _ (by omega), hx]
    have hgo : ∀ (g2 : Int → Int) (l10 : Option am_V), wrt g (p + ((tpL (DM fi ai) s row pre).length : Int)) (tpC (DM fi ai) s row x) g2 → am_W (am_ev am_prog (d + 2)) T_Mo_putTerm Q (46, [some (.inr (.inr 126)), some (.inl m), some (.inl n), some (.inl row), some (.inl jd), some (.inl k), some (.inl p), some (.inl (p + ((tpL (DM fi ai) s row pre).length : Int) + ((tpC (DM fi ai) s row x).length : Int))), some (.inl s), some (.inl (i + 1)), l10], [], HH L B1 B2 fi (am_sa ai 156 g2) aj) := by
      intro g2 l10 hg2
      have e0 : tpL (DM fi ai) s row (pre ++ [x]) = tpL (DM fi ai) s row pre ++ tpC (DM fi ai) s row x := by
        rw [tpL_app]
        show _ ++ (tpC (DM fi ai) s row x ++ []) = _
        rw [List.append_nil]
      have e : p + ((tpL (DM fi ai) s row pre).length : Int) + ((tpC (DM fi ai) s row x).length : Int) = p + ((tpL (DM fi ai) s row (pre ++ [x])).length : Int) := by
        rw [e0, List.length_append]
        omega
      rw [e]
      refine ih (pre ++ [x]) (i + 1) g2 l10 (by rw [hL, List.append_assoc]; rfl) (by rw [List.length_append, List.length_singleton]; omega) ?_
      rw [e0]
      exact wrt_app hg hg2
    refine am_W.br rfl rfl ⟨⟨⟨trivial, ok126⟩, o5⟩, ⟨by omega, by omega⟩, by rw [e5]; exact ⟨by omega, by omega⟩⟩ (fun c => absurd c (by rw [e5]; omega)) (fun c => ?_)
    refine am_W.gp 73 rfl ⟨⟨trivial, ok126⟩, o6⟩ ?_
    rw [e6]
    have hgo2 := hgo
    unfold tpC at hgo
    rcases rp_c hco.2.1 (hok x hxm) with ⟨h4, hrp, hx0, hx1⟩ | ⟨h4, hrp, hx0, hx1⟩
    · rw [hrp]
      rw [if_pos h4] at hgo
      have hne := hnn x hxm h4
      refine am_W.br rfl rfl ⟨trivial, ⟨by omega, by omega⟩, ⟨by omega, by omega⟩⟩ (fun c2 => ?_) (fun c2 => absurd (by omega) c2)
      refine am_W.cv 10 m_Mo_cell rfl rfl rfl rfl ⟨trivial, ok126⟩ (by rw [show 256 + x - 256 = x by omega]; exact c_mcell (d + 1) L B1 B2 fi (am_sa ai 156 g) aj s row x hI hr ⟨hx0, hx1⟩) ?_
      rintro r1 h1 ⟨rfl, rfl⟩
      refine am_W.cv 10 m_Mo_putNumber rfl rfl rfl rfl ⟨trivial, ok126⟩ (c_mputNumber d L B1 B2 fi (am_sa ai 156 g) aj (p + ((tpL (DM fi ai) s row pre).length : Int)) _ ⟨by omega, by omega⟩ ⟨by show 0 ≤ ce (DM fi ai) s row x; omega, by show ce (DM fi ai) s row x ≤ 9999; omega⟩) ?_
      rintro r1 h1 ⟨rfl, g2, rfl, hw2⟩
      rw [sasa]
      rw [sas] at hw2
      exact am_W.gp 46 rfl trivial (hgo g2 _ hw2)
    · rw [hrp]
      rw [if_neg h4] at hgo
      refine am_W.br rfl rfl ⟨trivial, ⟨by omega, by omega⟩, ⟨by omega, by omega⟩⟩ (fun c2 => absurd c2 (by omega)) (fun c2 => ?_)
      refine am_W.gp 46 rfl (by simp only [HS, FRS]; exact (by and_intros <;> first | trivial | exact okI rfl rfl rfl | (refine okrI rfl rfl rfl rfl ?_ ?_ <;> (first | omega | (simp only [HS, FRS, CCS, am_R] at *; omega))) | (refine okaI rfl rfl rfl rfl ?_ ?_ <;> (first | omega | (simp only [HS, FRS, CCS, am_R] at *; omega))) | (first | omega | (simp only [HS, FRS, CCS, am_R] at *; omega)) | (simp only [HS, FRS, CCS]))) ?_
      simp only [HS, FRS, u2sa]
      exact hgo _ _ wrt_one
/-- the heap with one term written at the slot given -/
def PTm (L B1 B2 : Nat) (fi : Nat → Nat → Int) (ai aj : Nat → Int → Int) (n κ : Int) (l : List Int) (g : Int → Int) : am_H := HH L B1 B2 fi (am_sa (am_sa (am_sa ai 156 g) 158 (up (ai 158) (3 * fi 94 126 + n) κ)) 157 (up (ai 157) (3 * fi 94 126 + n) (l.length : Int))) aj
set_option maxHeartbeats 400000 in
set_option maxRecDepth 100000 in
theorem c_putTerm (d L B1 B2 : Nat) (fi : Nat → Nat → Int) (ai aj : Nat → Int → Int) (m n row jd : Int) (x : MT) (y : PT) (l : List Int) (hm : 0 ≤ m ∧ m < 6) (hn : 0 ≤ n ∧ n < 3) (hs : ai 132 m = x.1) (hy : RepQ (ai 133) (ai 134) (ai 135) (ai 136) (3 * m + n) y) (hk : y.1 = 0 ∨ y.1 = 1 ∨ y.1 = 2) (hj : ai 137 m = x.2.2.2.2.1.1) (hu : ptU (DM fi ai) x y row jd l) (hI : DI (DM fi ai)) (hr : 0 ≤ row ∧ row < ro (DM fi ai) x.1) (hjd : -1 ≤ jd ∧ jd < 16) (hG : 0 ≤ fi 94 126 ∧ fi 94 126 ≤ 1536) : am_M am_prog (d + 3) m_Mo_putTerm [.inr (.inr 126), .inl m, .inl n, .inl row, .inl jd] (HH L B1 B2 fi ai aj) (fun w h' => w = none ∧ ∃ g, h' = PTm L B1 B2 fi ai aj n y.1 l g ∧ wrt (ai 156) (60 * fi 94 126 + 20 * n) l g) := by
  obtain ⟨r1, r2, r3⟩ := hy
  have hro := ro_in x.1 hI
  have hs0 := hro.2.2 (by omega)
  have hn4 := hI.1
  have hl120 : l.length ≤ 120 := by
    by_cases hq : y.1 = 2 ∧ jd ≠ -1
    · rw [(hu.1 hq).2.2.2]
      have := dgs_4 (ce (DM fi ai) x.2.2.2.2.1.1 jd y.2.1)
      omega
    · obtain ⟨q1, q2, q3⟩ := hu.2 hq
      have hco := co_in x.1 hI
      rw [q3]
      exact (tbP_b hI hs0.1 (fun z => ⟨(q1.2.1 z).1, fun q hq => okC_mo hco.2.1 ((q1.2.1 z).2 q hq)⟩) q2).2.1
  have ok126 : am_ok (HH L B1 B2 fi ai aj) 126 10 := okI rfl rfl rfl
  have oS : am_okr (HH L B1 B2 fi ai aj) (am_fr (HH L B1 B2 fi ai aj) 62 126) 1000 m := ok6 fi ai aj rfl rfl rfl hm
  have oJ : am_okr (HH L B1 B2 fi ai aj) (am_fr (HH L B1 B2 fi ai aj) 67 126) 1000 m := ok6 fi ai aj rfl rfl rfl hm
  have eS : am_ai (HH L B1 B2 fi ai aj) (am_fr (HH L B1 B2 fi ai aj) 62 126) m = x.1 := hs
  have eJ : am_ai (HH L B1 B2 fi ai aj) (am_fr (HH L B1 B2 fi ai aj) 67 126) m = x.2.2.2.2.1.1 := hj
  have o3 : am_okr (HH L B1 B2 fi ai aj) (am_fr (HH L B1 B2 fi ai aj) 63 126) 1000 (3 * m + n) := ok18 fi ai aj rfl rfl rfl ⟨by omega, by omega⟩
  have o4 : am_okr (HH L B1 B2 fi ai aj) (am_fr (HH L B1 B2 fi ai aj) 64 126) 1000 (3 * m + n) := ok18 fi ai aj rfl rfl rfl ⟨by omega, by omega⟩
  have e3 : am_ai (HH L B1 B2 fi ai aj) (am_fr (HH L B1 B2 fi ai aj) 63 126) (3 * m + n) = y.1 := r1
  -- the end
  have h239 : ∀ (g : Int → Int) (p : Int) (l9 l10 : Option am_V), wrt (ai 156) (60 * fi 94 126 + 20 * n) l g → am_W (am_ev am_prog (d + 2)) T_Mo_putTerm (fun w h' => w = none ∧ ∃ g, h' = PTm L B1 B2 fi ai aj n y.1 l g ∧ wrt (ai 156) (60 * fi 94 126 + 20 * n) l g) (239, [some (.inr (.inr 126)), some (.inl m), some (.inl n), some (.inl row), some (.inl jd), some (.inl (3 * m + n)), some (.inl (60 * fi 94 126 + 20 * n)), some (.inl (60 * fi 94 126 + 20 * n + (l.length : Int))), some (.inl x.1), l9, l10], [], HH L B1 B2 fi (am_sa ai 156 g) aj) := by
    intro g p l9 l10 hg
    refine am_W.rt rfl rfl (by simp only [HS, FRS]; exact (by and_intros <;> first | trivial | exact okI rfl rfl rfl | (refine okrI rfl rfl rfl rfl ?_ ?_ <;> (first | omega | (simp only [HS, FRS, CCS, am_R] at *; omega))) | (refine okaI rfl rfl rfl rfl ?_ ?_ <;> (first | omega | (simp only [HS, FRS, CCS, am_R] at *; omega))) | (first | omega | (simp only [HS, FRS, CCS, am_R] at *; omega)) | (simp only [HS, FRS, CCS]))) ⟨rfl, g, ?_, hg⟩
    simp only [HS, FRS, u2_sa]
    unfold PTm
    rw [san _ _ (show (133 : Nat) ≠ 156 by decide), san _ _ (show (158 : Nat) ≠ 156 by decide), san _ _ (show (157 : Nat) ≠ 158 by decide), san _ _ (show (157 : Nat) ≠ 156 by decide), r1, show 60 * fi 94 126 + 20 * n + (l.length : Int) - (60 * fi 94 126 + 20 * n) = (l.length : Int) by omega]
  have h0 : HH L B1 B2 fi ai aj = HH L B1 B2 fi (am_sa ai 156 (ai 156)) aj := by rw [sa_id]
  refine am_W.of rfl rfl ?_
  refine am_W.gp 33 rfl ⟨⟨⟨trivial, ok126⟩, ok126⟩, oS⟩ ?_
  rw [eS]
  show am_W _ _ _ (33, [some (.inr (.inr 126)), some (.inl m), some (.inl n), some (.inl row), some (.inl jd), some (.inl (3 * m + n)), some (.inl (60 * fi 94 126 + 20 * n)), some (.inl (60 * fi 94 126 + 20 * n)), some (.inl x.1), none, none], [], HH L B1 B2 fi ai aj)
  refine am_W.br rfl rfl ⟨⟨⟨trivial, ok126⟩, o3⟩, by rw [e3]; exact ⟨by omega, by omega⟩⟩ (fun c => ?_) (fun c => ?_)
  · rw [e3] at c
    have e4 : am_ai (HH L B1 B2 fi ai aj) (am_fr (HH L B1 B2 fi ai aj) 64 126) (3 * m + n) = y.2.1 := r2 c
    refine am_W.br rfl rfl ⟨⟨⟨trivial, ok126⟩, o3⟩, by rw [e3]; exact ⟨by omega, by omega⟩, ⟨by omega, by omega⟩⟩ (fun c1 => ?_) (fun c1 => ?_)
    · rw [e3] at c1
      have k2 : y.1 = 2 := by omega
      refine am_W.br rfl rfl ⟨trivial, ⟨by omega, by omega⟩, ⟨by omega, by omega⟩⟩ (fun c2 => ?_) (fun c2 => ?_)
      · obtain ⟨u1, u2, u3, u4⟩ := hu.1 ⟨k2, c2⟩
        have hcx := ce_in x.2.2.2.2.1.1 jd y.2.1 hI
        refine am_W.cv 10 m_Mo_cell rfl rfl rfl rfl ⟨⟨⟨⟨⟨trivial, ok126⟩, oJ⟩, ok126⟩, o4⟩, ok126⟩ (by rw [e4, eJ]; exact c_mcell (d + 1) L B1 B2 fi ai aj _ jd y.2.1 hI u1 u2) ?_
        rintro r1 h1 ⟨rfl, rfl⟩
        refine am_W.cv 10 m_Mo_putNumber rfl rfl rfl rfl ⟨trivial, ok126⟩ (c_mputNumber d L B1 B2 fi ai aj (60 * fi 94 126 + 20 * n) _ ⟨by omega, by omega⟩ ⟨by omega, by omega⟩) ?_
        rintro r1 h1 ⟨rfl, g2, rfl, hw2⟩
        rw [← u4] at hw2 ⊢
        exact am_W.gp 239 rfl trivial (h239 g2 0 _ _ hw2)
      · have hu2 := hu.2 (fun z => c2 z.2)
        obtain ⟨u1, u2, u3⟩ := hu2
        have hcx := ce_in x.1 row y.2.1 hI
        have hc2 := u1.2.2 c
        have hne : ce (DM fi ai) x.1 row y.2.1 ≠ -1 := by
          have := u2
          unfold nnP at this
          rw [if_neg c] at this
          exact this
        have u4 : l = dgs (ce (DM fi ai) x.1 row y.2.1) := by
          rw [u3]
          unfold tbP
          rw [if_neg c, if_neg (by omega)]
          rfl
        refine am_W.cv 10 m_Mo_cell rfl rfl rfl rfl ⟨⟨⟨trivial, ok126⟩, o4⟩, ok126⟩ (by rw [e4]; exact c_mcell (d + 1) L B1 B2 fi ai aj x.1 row y.2.1 hI hr hc2) ?_
        rintro r1 h1 ⟨rfl, rfl⟩
        refine am_W.cv 10 m_Mo_putNumber rfl rfl rfl rfl ⟨trivial, ok126⟩ (c_mputNumber d L B1 B2 fi ai aj (60 * fi 94 126 + 20 * n) _ ⟨by omega, by omega⟩ ⟨by omega, by omega⟩) ?_
        rintro r1 h1 ⟨rfl, g2, rfl, hw2⟩
        rw [← u4] at hw2 ⊢
        exact am_W.gp 239 rfl trivial (h239 g2 0 _ _ hw2)
    · rw [e3] at c1
      have k1 : y.1 = 1 := by omega
      obtain ⟨u1, u2, u3⟩ := hu.2 (fun z => by omega)
      have hcx := ce_in x.1 row y.2.1 hI
      have hc2 := u1.2.2 c
      have hne : ce (DM fi ai) x.1 row y.2.1 ≠ -1 := by
        have := u2
        unfold nnP at this
        rw [if_neg c] at this
        exact this
      have ed : dgs x.1 = [48 + x.1] := by
        unfold dgs
        rw [if_neg (by omega), if_neg (by omega), if_neg (by omega), show x.1 % 10 = x.1 by omega]
        rfl
      have u4 : l = [48 + x.1, 46] ++ dgs (ce (DM fi ai) x.1 row y.2.1) := by
        rw [u3]
        unfold tbP
        rw [if_neg c, if_pos k1, ed]
        rfl
      refine am_W.gp 162 rfl (by simp only [HS, FRS]; exact (by and_intros <;> first | trivial | exact okI rfl rfl rfl | (refine okrI rfl rfl rfl rfl ?_ ?_ <;> (first | omega | (simp only [HS, FRS, CCS, am_R] at *; omega))) | (refine okaI rfl rfl rfl rfl ?_ ?_ <;> (first | omega | (simp only [HS, FRS, CCS, am_R] at *; omega))) | (first | omega | (simp only [HS, FRS, CCS, am_R] at *; omega)) | (simp only [HS, FRS, CCS]))) ?_
      simp only [HS, FRS, u2_sa, sas, sasa]
      generalize hg1 : up (up (ai 156) (60 * fi 94 126 + 20 * n) (48 + x.1)) (60 * fi 94 126 + 20 * n + 1) 46 = g1
      have hw1 : wrt (ai 156) (60 * fi 94 126 + 20 * n) [48 + x.1, 46] g1 := by
        rw [← hg1]
        exact wrt_app (a := [48 + x.1]) (b := [46]) wrt_one wrt_one
      have ok126' : am_ok (HH L B1 B2 fi (am_sa ai 156 g1) aj) 126 10 := okI rfl rfl rfl
      have o4' : am_okr (HH L B1 B2 fi (am_sa ai 156 g1) aj) (am_fr (HH L B1 B2 fi (am_sa ai 156 g1) aj) 64 126) 1000 (3 * m + n) := ok18 fi _ aj rfl rfl rfl ⟨by omega, by omega⟩
      have e4' : am_ai (HH L B1 B2 fi (am_sa ai 156 g1) aj) (am_fr (HH L B1 B2 fi (am_sa ai 156 g1) aj) 64 126) (3 * m + n) = y.2.1 := e4
      refine am_W.cv 10 m_Mo_cell rfl rfl rfl rfl ⟨⟨⟨trivial, ok126'⟩, o4'⟩, ok126'⟩ (by rw [e4']; exact c_mcell (d + 1) L B1 B2 fi (am_sa ai 156 g1) aj x.1 row y.2.1 hI hr hc2) ?_
      rintro r1 h1 ⟨rfl, rfl⟩
      refine am_W.cv 10 m_Mo_putNumber rfl rfl rfl rfl ⟨trivial, ok126'⟩ (c_mputNumber d L B1 B2 fi (am_sa ai 156 g1) aj (60 * fi 94 126 + 20 * n + 2) (ce (DM fi ai) x.1 row y.2.1) ⟨by omega, by omega⟩ ⟨by omega, by omega⟩) ?_
      rintro r1 h1 ⟨rfl, g2, rfl, hw2⟩
      rw [sasa]
      rw [sas] at hw2
      have hw3 : wrt (ai 156) (60 * fi 94 126 + 20 * n) l g2 := by
        rw [u4]
        exact wrt_app hw1 hw2
      have hll : 60 * fi 94 126 + 20 * n + 2 + ((dgs (ce (DM fi ai) x.1 row y.2.1)).length : Int) = 60 * fi 94 126 + 20 * n + (l.length : Int) := by
        rw [u4, List.length_append]
        show _ = 60 * fi 94 126 + 20 * n + ((2 + _ : Nat) : Int)
        omega
      rw [hll]
      exact am_W.gp 239 rfl trivial (h239 g2 0 _ _ hw3)
  · rw [e3] at c
    have k0 : y.1 = 0 := by omega
    obtain ⟨u1, u2, u3⟩ := hu.2 (fun z => by omega)
    have u4 : l = tpL (DM fi ai) x.1 row y.2.2 := by
      rw [u3]
      unfold tbP
      rw [if_pos k0]
    have u5 : ∀ x1 ∈ y.2.2, x1 < 4 → ce (DM fi ai) x.1 row x1 ≠ -1 := by
      have := u2
      unfold nnP at this
      rw [if_pos k0] at this
      exact this
    have w := l_mputTerm d L B1 B2 fi ai aj m n (3 * m + n) x.1 row jd 0 ⟨by omega, by omega⟩ hI hr y.2.2 (r3 k0).1 (u1.2.1 k0).1 (r3 k0).2 (u1.2.1 k0).2 u5 (60 * fi 94 126 + 20 * n) ⟨by omega, by omega⟩ (fun w h' => w = none ∧ ∃ g, h' = PTm L B1 B2 fi ai aj n y.1 l g ∧ wrt (ai 156) (60 * fi 94 126 + 20 * n) l g) (fun g hg l9 l10 => by rw [← u4] at hg ⊢; exact h239 g 0 l9 l10 hg) y.2.2 [] 0 (ai 156) none rfl rfl wrt_nil
    rw [show 60 * fi 94 126 + 20 * n + ((tpL (DM fi ai) x.1 row []).length : Int) = 60 * fi 94 126 + 20 * n from Int.add_zero _, ← h0] at w
    exact am_W.gp 46 rfl trivial w
