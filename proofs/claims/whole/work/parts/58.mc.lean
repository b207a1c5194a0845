-- the reference's reader: conditions and mappings
set_option maxHeartbeats 400000 in
set_option maxRecDepth 100000 in
theorem c_misWordF (d L B1 B2 : Nat) (fi : Nat → Nat → Int) (ai aj : Nat → Int → Int) (v : Int) (h91 : fi 91 126 = 1) : am_M am_prog (d + 1) m_Mo_isWord [.inr (.inr 126), .inl v] (HH L B1 B2 fi ai aj) (fun w h' => w = some (.inl 0) ∧ h' = HH L B1 B2 fi ai aj) := by
  have fl91 := h91
  have fl87 : True := trivial
  refine am_W.of rfl rfl ?_
  refine am_W.br rfl rfl (by and_intros <;> first | trivial | exact okI rfl rfl rfl | (refine okrI rfl rfl rfl rfl ?_ ?_ <;> (first | omega | (simp only [HS, FRS, CCS, am_R, fl91, fl87] at *; omega))) | (refine okaI rfl rfl rfl rfl ?_ ?_ <;> (first | omega | (simp only [HS, FRS, CCS, am_R, fl91, fl87] at *; omega))) | (first | omega | (simp only [HS, FRS, CCS, am_R, fl91, fl87] at *; omega)) | (simp only [HS, FRS, CCS, fl91, fl87])) (fun c1 => ?_) (fun c1 => absurd c1 (by simp only [HS, h91]; decide))
  exact am_W.rt rfl rfl (by and_intros <;> first | trivial | exact okI rfl rfl rfl | (refine okrI rfl rfl rfl rfl ?_ ?_ <;> (first | omega | (simp only [HS, FRS, CCS, am_R, fl91, fl87] at *; omega))) | (refine okaI rfl rfl rfl rfl ?_ ?_ <;> (first | omega | (simp only [HS, FRS, CCS, am_R, fl91, fl87] at *; omega))) | (first | omega | (simp only [HS, FRS, CCS, am_R, fl91, fl87] at *; omega)) | (simp only [HS, FRS, CCS, fl91, fl87])) ⟨rfl, rfl⟩
set_option maxHeartbeats 400000 in
set_option maxRecDepth 100000 in
theorem c_misSignF (d L B1 B2 : Nat) (fi : Nat → Nat → Int) (ai aj : Nat → Int → Int) (v : Int) (h91 : fi 91 126 = 1) : am_M am_prog (d + 1) m_Mo_isSign [.inr (.inr 126), .inl v] (HH L B1 B2 fi ai aj) (fun w h' => w = some (.inl 0) ∧ h' = HH L B1 B2 fi ai aj) := by
  have fl91 := h91
  have fl87 : True := trivial
  refine am_W.of rfl rfl ?_
  refine am_W.br rfl rfl (by and_intros <;> first | trivial | exact okI rfl rfl rfl | (refine okrI rfl rfl rfl rfl ?_ ?_ <;> (first | omega | (simp only [HS, FRS, CCS, am_R, fl91, fl87] at *; omega))) | (refine okaI rfl rfl rfl rfl ?_ ?_ <;> (first | omega | (simp only [HS, FRS, CCS, am_R, fl91, fl87] at *; omega))) | (first | omega | (simp only [HS, FRS, CCS, am_R, fl91, fl87] at *; omega)) | (simp only [HS, FRS, CCS, fl91, fl87])) (fun c1 => ?_) (fun c1 => absurd c1 (by simp only [HS, h91]; decide))
  exact am_W.rt rfl rfl (by and_intros <;> first | trivial | exact okI rfl rfl rfl | (refine okrI rfl rfl rfl rfl ?_ ?_ <;> (first | omega | (simp only [HS, FRS, CCS, am_R, fl91, fl87] at *; omega))) | (refine okaI rfl rfl rfl rfl ?_ ?_ <;> (first | omega | (simp only [HS, FRS, CCS, am_R, fl91, fl87] at *; omega))) | (first | omega | (simp only [HS, FRS, CCS, am_R, fl91, fl87] at *; omega)) | (simp only [HS, FRS, CCS, fl91, fl87])) ⟨rfl, rfl⟩
def sg (x : Int) : Int := if x = -1 then 0 else if x = 1853189228 then 1 else x
theorem qIs_e {β : Type} (q : Int) (σ : Tk) (F : Tk → Int ⊕ β) : (if σ.2.1 = q then F σ else .inl (-10 - σ.1)) = pb (qIs q σ) F := by
  unfold qIs
  split <;> rfl
theorem qIs_i {q : Int} {σ z : Tk} (h : qIs q σ = .inr z) : z = σ ∧ σ.2.1 = q := by
  unfold qIs at h
  split at h
  · next h1 =>
    cases h
    exact ⟨rfl, h1⟩
  · cases h
theorem qNum_i {m : Int} {σ z : Tk} (h : qNum m σ = .inr z) : z = σ ∧ σ.2.1 = 1 ∧ σ.2.2.1 < m := by
  unfold qNum at h
  split at h
  · next h1 =>
    split at h
    · next h2 =>
      cases h
      exact ⟨rfl, h1, h2⟩
    · cases h
  · cases h
def KCo (m : Int) (ai : Nat → Int → Int) : (Nat → Nat → Int) → (Nat → Int → Int) → JT × Tk → Prop := fun fi' ai' x => ai' 153 m = sg x.1.1 ∧ (x.1.1 ≠ -1 → ai' 154 m = x.1.2.1) ∧ (x.1.1 ≠ -1 → x.1.1 ≠ 1853189228 → ai' 155 m = x.1.2.2) ∧ TM fi' x.2 ∧ (∀ b, b ≠ 153 → b ≠ 154 → b ≠ 155 → ai' b = ai b)
def pCo (t : Int → Int) (m : Int) (σ : Tk) : Int ⊕ (JT × Tk) := if σ.2.1 = 26982 then pCond t m σ else .inr ((-1, 0, 0), σ)
set_option maxHeartbeats 400000 in
set_option maxRecDepth 100000 in
theorem c_mconditionF (d L B1 B2 : Nat) (fi : Nat → Nat → Int) (ai aj : Nat → Int → Int) (m k e : Int) (hm : 0 ≤ m ∧ m < 6) (hf : FL fi e) : am_M am_prog (d + 2) m_Mo_condition [.inr (.inr 126), .inl m, .inl k] (HH L B1 B2 fi ai aj) (fun w h' => w = none ∧ h' = HH L B1 B2 fi (am_u2 ai 153 m 0) aj) := by
  have fl91 := hf.1
  have fl87 : True := trivial
  refine am_W.of rfl rfl ?_
  refine am_W.cv 10 m_Mo_isWord rfl rfl rfl rfl (by and_intros <;> first | trivial | exact okI rfl rfl rfl | (refine okrI rfl rfl rfl rfl ?_ ?_ <;> (first | omega | (simp only [HS, FRS, CCS, am_R, fl91, fl87] at *; omega))) | (refine okaI rfl rfl rfl rfl ?_ ?_ <;> (first | omega | (simp only [HS, FRS, CCS, am_R, fl91, fl87] at *; omega))) | (first | omega | (simp only [HS, FRS, CCS, am_R, fl91, fl87] at *; omega)) | (simp only [HS, FRS, CCS, fl91, fl87])) (c_misWordF d L B1 B2 fi (am_u2 ai 153 m 0) aj 1 fl91) ?_
  rintro r1 h1 ⟨rfl, rfl⟩
  refine am_W.br rfl rfl (by and_intros <;> first | trivial | exact okI rfl rfl rfl | (refine okrI rfl rfl rfl rfl ?_ ?_ <;> (first | omega | (simp only [HS, FRS, CCS, am_R, fl91, fl87] at *; omega))) | (refine okaI rfl rfl rfl rfl ?_ ?_ <;> (first | omega | (simp only [HS, FRS, CCS, am_R, fl91, fl87] at *; omega))) | (first | omega | (simp only [HS, FRS, CCS, am_R, fl91, fl87] at *; omega)) | (simp only [HS, FRS, CCS, fl91, fl87])) (fun c1 => absurd rfl c1) (fun c1 => ?_)
  exact am_W.rt rfl rfl (by and_intros <;> first | trivial | exact okI rfl rfl rfl | (refine okrI rfl rfl rfl rfl ?_ ?_ <;> (first | omega | (simp only [HS, FRS, CCS, am_R, fl91, fl87] at *; omega))) | (refine okaI rfl rfl rfl rfl ?_ ?_ <;> (first | omega | (simp only [HS, FRS, CCS, am_R, fl91, fl87] at *; omega))) | (first | omega | (simp only [HS, FRS, CCS, am_R, fl91, fl87] at *; omega)) | (simp only [HS, FRS, CCS, fl91, fl87])) ⟨rfl, rfl⟩
set_option maxHeartbeats 400000 in
set_option maxRecDepth 100000 in
theorem c_mcondition (d L B1 B2 : Nat) (fi : Nat → Nat → Int) (ai aj : Nat → Int → Int) (m k : Int) (σ : Tk) (t : Int → Int) (hm : 0 ≤ m ∧ m < 6) (hk : 0 ≤ k ∧ k ≤ 4) (h91 : fi 91 126 = 0) (hL : LM fi ai) (hT : TM fi σ) (et : tx (fi 60 126) (ai 131) = t) : am_M am_prog (d + 4) m_Mo_condition [.inr (.inr 126), .inl m, .inl k] (HH L B1 B2 fi ai aj) (fun w h' => w = none ∧ MoQ L B1 B2 aj fi (FO m ai) (pCo t k σ) (KCo m ai) h') := by
  have fl91 := h91
  have fl87 : True := trivial
  obtain ⟨l1, l2, l3, l4, l5⟩ := id hL
  have hRif : (fi 87 126 = 1 ∧ fi 88 126 = 1) ↔ σ.2.1 = 26982 := hT.2.2.1.2.2.2.2.2.2.2.2.2.2.2.2.1
  have tb := hT.2.1
  refine am_W.of rfl rfl ?_
  have h131 : ∀ {b : Nat → Int → Int}, FO m ai b → b 131 = ai 131 := fun h => h.1 131 (by omega)
  have hA1 : FO m ai (am_u2 ai 153 m 0) := FO_u (by omega)
  have hb1 : ∀ b, b ≠ 153 → am_u2 ai 153 m 0 b = ai b := fun b hb => funext fun j => u2n hb
  have e153 : am_u2 ai 153 m 0 153 m = 0 := u2s
  have hL1 : LM fi (am_u2 ai 153 m 0) := LM_a (am_u2_131 (by decide)) hL
  unfold pCo
  refine am_W.cv 10 m_Mo_isWord rfl rfl rfl rfl (by and_intros <;> first | trivial | exact okI rfl rfl rfl | (refine okrI rfl rfl rfl rfl ?_ ?_ <;> (first | omega | (simp only [HS, FRS, CCS, am_R, fl91, fl87] at *; omega))) | (refine okaI rfl rfl rfl rfl ?_ ?_ <;> (first | omega | (simp only [HS, FRS, CCS, am_R, fl91, fl87] at *; omega))) | (first | omega | (simp only [HS, FRS, CCS, am_R, fl91, fl87] at *; omega)) | (simp only [HS, FRS, CCS, fl91, fl87])) (c_misWord (d + 2) L B1 B2 fi (am_u2 ai 153 m 0) aj 1 (by and_intros <;> first | trivial | exact okI rfl rfl rfl | (refine okrI rfl rfl rfl rfl ?_ ?_ <;> (first | omega | (simp only [HS, FRS, CCS, am_R, fl91, fl87] at *; omega))) | (refine okaI rfl rfl rfl rfl ?_ ?_ <;> (first | omega | (simp only [HS, FRS, CCS, am_R, fl91, fl87] at *; omega))) | (first | omega | (simp only [HS, FRS, CCS, am_R, fl91, fl87] at *; omega)) | (simp only [HS, FRS, CCS, fl91, fl87])) (Or.inl h91) ⟨by omega, by omega⟩ ⟨by omega, by omega⟩) ?_
  rintro r1 h1 ⟨rfl, rfl⟩
  generalize am_u2 ai 153 m 0 = a1 at *
  by_cases hy : σ.2.1 = 26982
  · rw [if_pos hy, if_pos ⟨h91, hRif.mpr hy⟩]
    refine am_W.br rfl rfl (by and_intros <;> first | trivial | exact okI rfl rfl rfl | (refine okrI rfl rfl rfl rfl ?_ ?_ <;> (first | omega | (simp only [HS, FRS, CCS, am_R, fl91, fl87] at *; omega))) | (refine okaI rfl rfl rfl rfl ?_ ?_ <;> (first | omega | (simp only [HS, FRS, CCS, am_R, fl91, fl87] at *; omega))) | (first | omega | (simp only [HS, FRS, CCS, am_R, fl91, fl87] at *; omega)) | (simp only [HS, FRS, CCS, fl91, fl87])) (fun c1 => ?_) (fun c1 => absurd c1 (by decide))
    refine am_W.cv 10 m_Mo_next rfl rfl rfl rfl (by and_intros <;> first | trivial | exact okI rfl rfl rfl | (refine okrI rfl rfl rfl rfl ?_ ?_ <;> (first | omega | (simp only [HS, FRS, CCS, am_R, fl91, fl87] at *; omega))) | (refine okaI rfl rfl rfl rfl ?_ ?_ <;> (first | omega | (simp only [HS, FRS, CCS, am_R, fl91, fl87] at *; omega))) | (first | omega | (simp only [HS, FRS, CCS, am_R, fl91, fl87] at *; omega)) | (simp only [HS, FRS, CCS, fl91, fl87])) (c_mnx (d + 1) L B1 B2 fi a1 aj t σ.2.2.2 hL1 (by rw [h131 hA1]; exact et) tb) ?_
    rintro r1 h1 ⟨rfl, f2, rfl, g1, g2, g3, g4⟩
    have g91 : f2 91 126 = 0 := g2.trans h91
    have o3 := g3.2.2
    unfold pCond
    obtain ⟨y1, y2, y3, y4⟩ := id g4
    have yN : (f2 87 126 = 1 ∧ f2 88 126 = 5) ↔ (lx t σ.2.2.2 0).2.1 = 1853189228 := y3.2.2.2.2.2.2.2.2.2.2.2.2.2.2.2.2.1
    have y36 : (f2 87 126 = 3 ∧ f2 88 126 = 36) ↔ (lx t σ.2.2.2 0).2.1 = 36 := y3.2.2.2.2.2.2.1
    generalize lx t σ.2.2.2 0 = y at *
    refine am_W.cv 10 m_Mo_isWord rfl rfl rfl rfl (by and_intros <;> first | trivial | exact okI rfl rfl rfl | (refine okrI rfl rfl rfl rfl ?_ ?_ <;> (first | omega | (simp only [HS, FRS, CCS, am_R, fl91, fl87] at *; omega))) | (refine okaI rfl rfl rfl rfl ?_ ?_ <;> (first | omega | (simp only [HS, FRS, CCS, am_R, fl91, fl87] at *; omega))) | (first | omega | (simp only [HS, FRS, CCS, am_R, fl91, fl87] at *; omega)) | (simp only [HS, FRS, CCS, fl91, fl87])) (c_misWord (d + 2) L B1 B2 f2 a1 aj 5 (by and_intros <;> first | trivial | exact okI rfl rfl rfl | (refine okrI rfl rfl rfl rfl ?_ ?_ <;> (first | omega | (simp only [HS, FRS, CCS, am_R, fl91, fl87] at *; omega))) | (refine okaI rfl rfl rfl rfl ?_ ?_ <;> (first | omega | (simp only [HS, FRS, CCS, am_R, fl91, fl87] at *; omega))) | (first | omega | (simp only [HS, FRS, CCS, am_R, fl91, fl87] at *; omega)) | (simp only [HS, FRS, CCS, fl91, fl87])) (Or.inl g91) ⟨by omega, by omega⟩ ⟨by omega, by omega⟩) ?_
    rintro r1 h1 ⟨rfl, rfl⟩
    by_cases hn : y.2.1 = 1853189228
    · rw [if_pos hn, show (if f2 91 126 = 0 ∧ f2 87 126 = 1 ∧ f2 88 126 = 5 then (1 : Int) else 0) = 1 from if_pos ⟨g91, yN.mpr hn⟩]
      refine am_W.br rfl rfl (by and_intros <;> first | trivial | exact okI rfl rfl rfl | (refine okrI rfl rfl rfl rfl ?_ ?_ <;> (first | omega | (simp only [HS, FRS, CCS, am_R, fl91, fl87] at *; omega))) | (refine okaI rfl rfl rfl rfl ?_ ?_ <;> (first | omega | (simp only [HS, FRS, CCS, am_R, fl91, fl87] at *; omega))) | (first | omega | (simp only [HS, FRS, CCS, am_R, fl91, fl87] at *; omega)) | (simp only [HS, FRS, CCS, fl91, fl87])) (fun c2 => absurd c2 (by decide)) (fun c2 => ?_)
      refine am_W.cv 10 m_Mo_next rfl rfl rfl rfl (by and_intros <;> first | trivial | exact okI rfl rfl rfl | (refine okrI rfl rfl rfl rfl ?_ ?_ <;> (first | omega | (simp only [HS, FRS, CCS, am_R, fl91, fl87] at *; omega))) | (refine okaI rfl rfl rfl rfl ?_ ?_ <;> (first | omega | (simp only [HS, FRS, CCS, am_R, fl91, fl87] at *; omega))) | (first | omega | (simp only [HS, FRS, CCS, am_R, fl91, fl87] at *; omega)) | (simp only [HS, FRS, CCS, fl91, fl87])) (c_mnx (d + 1) L B1 B2 f2 a1 aj t y.2.2.2 g3 (by rw [h131 hA1, g1 60 126 (by omega)]; exact et) y2) ?_
      rintro r1 h1 ⟨rfl, f3, rfl, j1, j2, j3, j4⟩
      have hF3 : FM fi f3 := g1.tr j1
      have z36 : (f3 87 126 = 3 ∧ f3 88 126 = 36) ↔ (lx t y.2.2.2 0).2.1 = 36 := j4.2.2.1.2.2.2.2.2.2.1
      refine am_W.cv 10 m_Mo_wantSign rfl rfl rfl rfl (by and_intros <;> first | trivial | exact okI rfl rfl rfl | (refine okrI rfl rfl rfl rfl ?_ ?_ <;> (first | omega | (simp only [HS, FRS, CCS, am_R, fl91, fl87] at *; omega))) | (refine okaI rfl rfl rfl rfl ?_ ?_ <;> (first | omega | (simp only [HS, FRS, CCS, am_R, fl91, fl87] at *; omega))) | (first | omega | (simp only [HS, FRS, CCS, am_R, fl91, fl87] at *; omega)) | (simp only [HS, FRS, CCS, fl91, fl87])) (c_mwantSign d L B1 B2 f3 a1 aj 36 36 _ t (by and_intros <;> first | trivial | exact okI rfl rfl rfl | (refine okrI rfl rfl rfl rfl ?_ ?_ <;> (first | omega | (simp only [HS, FRS, CCS, am_R, fl91, fl87] at *; omega))) | (refine okaI rfl rfl rfl rfl ?_ ?_ <;> (first | omega | (simp only [HS, FRS, CCS, am_R, fl91, fl87] at *; omega))) | (first | omega | (simp only [HS, FRS, CCS, am_R, fl91, fl87] at *; omega)) | (simp only [HS, FRS, CCS, fl91, fl87])) (j2.trans g91) j3 j4 (by rw [h131 hA1, hF3 60 126 (by omega)]; exact et) z36) ?_
      rintro r1 h1 ⟨rfl, f4, a4, rfl, k1, rfl, k3⟩
      have hF4 : FM fi f4 := hF3.tr k1
      have hA4 : FO m ai (am_u2 a4 153 m 1) := hA1.tr (FO_u (by omega))
      rw [qIs_e 36 (lx t y.2.2.2 0) (fun z => pb (pNum t k z.2.2.2) fun u => .inr ((1853189228, u.2.2.1, 0), lx t u.2.2.2 0))]
      cases hq4 : qIs 36 (lx t y.2.2.2 0) with
      | inl e =>
        rw [hq4] at k3
        refine am_W.cv 10 m_Mo_wantNumber rfl rfl rfl rfl (by and_intros <;> first | trivial | exact okI rfl rfl rfl | (refine okrI rfl rfl rfl rfl ?_ ?_ <;> (first | omega | (simp only [HS, FRS, CCS, am_R, fl91, fl87] at *; omega))) | (refine okaI rfl rfl rfl rfl ?_ ?_ <;> (first | omega | (simp only [HS, FRS, CCS, am_R, fl91, fl87] at *; omega))) | (first | omega | (simp only [HS, FRS, CCS, am_R, fl91, fl87] at *; omega)) | (simp only [HS, FRS, CCS, fl91, fl87])) (c_mwantNumF (d + 2) L B1 B2 f4 (am_u2 a4 153 m 1) aj k k3.1) ?_
        rintro r1 h1 ⟨rfl, rfl⟩
        exact am_W.rt rfl rfl (by and_intros <;> first | trivial | exact okI rfl rfl rfl | (refine okrI rfl rfl rfl rfl ?_ ?_ <;> (first | omega | (simp only [HS, FRS, CCS, am_R, fl91, fl87] at *; omega))) | (refine okaI rfl rfl rfl rfl ?_ ?_ <;> (first | omega | (simp only [HS, FRS, CCS, am_R, fl91, fl87] at *; omega))) | (first | omega | (simp only [HS, FRS, CCS, am_R, fl91, fl87] at *; omega)) | (simp only [HS, FRS, CCS, fl91, fl87])) ⟨rfl, MoQ_f (f1 := f4) (a1 := am_u2 (am_u2 a4 153 m 1) 154 m 0) rfl hF4 (hA4.tr (FO_u (by omega))) k3⟩
      | inr z =>
        rw [hq4] at k3
        obtain ⟨k4, k5, k6⟩ := k3
        rw [pb_r, pNum_q]
        refine am_W.cv 10 m_Mo_wantNumber rfl rfl rfl rfl (by and_intros <;> first | trivial | exact okI rfl rfl rfl | (refine okrI rfl rfl rfl rfl ?_ ?_ <;> (first | omega | (simp only [HS, FRS, CCS, am_R, fl91, fl87] at *; omega))) | (refine okaI rfl rfl rfl rfl ?_ ?_ <;> (first | omega | (simp only [HS, FRS, CCS, am_R, fl91, fl87] at *; omega))) | (first | omega | (simp only [HS, FRS, CCS, am_R, fl91, fl87] at *; omega)) | (simp only [HS, FRS, CCS, fl91, fl87])) (c_mwantNum d L B1 B2 f4 (am_u2 a4 153 m 1) aj k _ t ⟨by omega, by omega⟩ k4 (LM_a (am_u2_131 (by decide)) k5) k6 (by rw [h131 hA4, hF4 60 126 (by omega)]; exact et)) ?_
        rintro r1 h1 ⟨v5, rfl, f5, a5, rfl, x1, rfl, x3⟩
        have hA5 : FO m ai (am_u2 (am_u2 a4 153 m 1) 154 m v5) := hA4.tr (FO_u (by omega))
        cases hq5 : qNum k (lx t z.2.2.2 0) with
        | inl e =>
          rw [hq5] at x3
          exact am_W.rt rfl rfl (by and_intros <;> first | trivial | exact okI rfl rfl rfl | (refine okrI rfl rfl rfl rfl ?_ ?_ <;> (first | omega | (simp only [HS, FRS, CCS, am_R, fl91, fl87] at *; omega))) | (refine okaI rfl rfl rfl rfl ?_ ?_ <;> (first | omega | (simp only [HS, FRS, CCS, am_R, fl91, fl87] at *; omega))) | (first | omega | (simp only [HS, FRS, CCS, am_R, fl91, fl87] at *; omega)) | (simp only [HS, FRS, CCS, fl91, fl87])) ⟨rfl, MoQ_f (f1 := f5) (a1 := am_u2 (am_u2 a4 153 m 1) 154 m v5) rfl (hF4.tr x1) hA5 x3⟩
        | inr u =>
          rw [hq5] at x3
          obtain ⟨x4, x5, x6, x7, x8⟩ := x3
          refine am_W.rt rfl rfl (by and_intros <;> first | trivial | exact okI rfl rfl rfl | (refine okrI rfl rfl rfl rfl ?_ ?_ <;> (first | omega | (simp only [HS, FRS, CCS, am_R, fl91, fl87] at *; omega))) | (refine okaI rfl rfl rfl rfl ?_ ?_ <;> (first | omega | (simp only [HS, FRS, CCS, am_R, fl91, fl87] at *; omega))) | (first | omega | (simp only [HS, FRS, CCS, am_R, fl91, fl87] at *; omega)) | (simp only [HS, FRS, CCS, fl91, fl87])) ⟨rfl, MoQ_y (f1 := f5) (a1 := am_u2 (am_u2 a4 153 m 1) 154 m v5) (a := ((1853189228, u.2.2.1, 0), lx t u.2.2.2 0)) rfl (hF4.tr x1) hA5 x4 (LM_a (am_u2_131 (by decide)) x5) ⟨?_, fun _ => ?_, fun _ q => absurd rfl q, x8, ?_⟩⟩
          · rw [u2n (by decide), u2s]
            rfl
          · rw [u2s]
            exact x6
          · intro b h1 h2 h3
            rw [show am_u2 (am_u2 a4 153 m 1) 154 m v5 b = a4 b from funext fun j => by rw [u2n h2, u2n h1]]
            exact hb1 b h1
    · rw [if_neg hn, show (if f2 91 126 = 0 ∧ f2 87 126 = 1 ∧ f2 88 126 = 5 then (1 : Int) else 0) = 0 from if_neg (fun z => hn (yN.mp z.2))]
      refine am_W.br rfl rfl (by and_intros <;> first | trivial | exact okI rfl rfl rfl | (refine okrI rfl rfl rfl rfl ?_ ?_ <;> (first | omega | (simp only [HS, FRS, CCS, am_R, fl91, fl87] at *; omega))) | (refine okaI rfl rfl rfl rfl ?_ ?_ <;> (first | omega | (simp only [HS, FRS, CCS, am_R, fl91, fl87] at *; omega))) | (first | omega | (simp only [HS, FRS, CCS, am_R, fl91, fl87] at *; omega)) | (simp only [HS, FRS, CCS, fl91, fl87])) (fun c2 => ?_) (fun c2 => absurd rfl c2)
      refine am_W.cv 10 m_Mo_wantSign rfl rfl rfl rfl (by and_intros <;> first | trivial | exact okI rfl rfl rfl | (refine okrI rfl rfl rfl rfl ?_ ?_ <;> (first | omega | (simp only [HS, FRS, CCS, am_R, fl91, fl87] at *; omega))) | (refine okaI rfl rfl rfl rfl ?_ ?_ <;> (first | omega | (simp only [HS, FRS, CCS, am_R, fl91, fl87] at *; omega))) | (first | omega | (simp only [HS, FRS, CCS, am_R, fl91, fl87] at *; omega)) | (simp only [HS, FRS, CCS, fl91, fl87])) (c_mwantSign d L B1 B2 f2 a1 aj 36 36 y t (by and_intros <;> first | trivial | exact okI rfl rfl rfl | (refine okrI rfl rfl rfl rfl ?_ ?_ <;> (first | omega | (simp only [HS, FRS, CCS, am_R, fl91, fl87] at *; omega))) | (refine okaI rfl rfl rfl rfl ?_ ?_ <;> (first | omega | (simp only [HS, FRS, CCS, am_R, fl91, fl87] at *; omega))) | (first | omega | (simp only [HS, FRS, CCS, am_R, fl91, fl87] at *; omega)) | (simp only [HS, FRS, CCS, fl91, fl87])) g91 g3 g4 (by rw [h131 hA1, g1 60 126 (by omega)]; exact et) y36) ?_
      rintro r1 h1 ⟨rfl, f4, a4, rfl, k1, rfl, k3⟩
      have hF4 : FM fi f4 := g1.tr k1
      rw [qIs_e 36 y (fun z => pb (pNum t k z.2.2.2) fun u => if (lx t u.2.2.2 0).2.1 = 61 ∨ (lx t u.2.2.2 0).2.1 = 60 ∨ (lx t u.2.2.2 0).2.1 = 62 then pb (pIs t 1 (lx t u.2.2.2 0).2.2.2) (fun w => .inr (((lx t u.2.2.2 0).2.1, u.2.2.1, w.2.2.1), lx t w.2.2.2 0)) else .inl (-10 - (lx t u.2.2.2 0).1))]
      -- behind a fault: the three tests answer no
      have hF : ∀ (R : Int ⊕ (JT × Tk)) (f6 : Nat → Nat → Int) (a6 : Nat → Int → Int) (e : Int), FM fi f6 → FO m ai a6 → FL f6 e → R = .inl e → am_W (am_ev am_prog (d + 3)) T_Mo_condition (fun w h' => w = none ∧ MoQ L B1 B2 aj fi (FO m ai) R (KCo m ai) h') (74, [some (.inr (.inr 126)), some (.inl m), some (.inl k)], [], HH L B1 B2 f6 a6 aj) := by
        intro R f6 a6 e x1 x2 x3 x6
        have f61 := x3.1
        refine am_W.cv 10 m_Mo_isSign rfl rfl rfl rfl (by and_intros <;> first | trivial | exact okI rfl rfl rfl | (refine okrI rfl rfl rfl rfl ?_ ?_ <;> (first | omega | (simp only [HS, FRS, CCS, am_R, fl91, fl87] at *; omega))) | (refine okaI rfl rfl rfl rfl ?_ ?_ <;> (first | omega | (simp only [HS, FRS, CCS, am_R, fl91, fl87] at *; omega))) | (first | omega | (simp only [HS, FRS, CCS, am_R, fl91, fl87] at *; omega)) | (simp only [HS, FRS, CCS, fl91, fl87])) (c_misSignF (d + 2) L B1 B2 f6 a6 aj 61 f61) ?_
        rintro r1 h1 ⟨rfl, rfl⟩
        refine am_W.br rfl rfl (by and_intros <;> first | trivial | exact okI rfl rfl rfl | (refine okrI rfl rfl rfl rfl ?_ ?_ <;> (first | omega | (simp only [HS, FRS, CCS, am_R, fl91, fl87] at *; omega))) | (refine okaI rfl rfl rfl rfl ?_ ?_ <;> (first | omega | (simp only [HS, FRS, CCS, am_R, fl91, fl87] at *; omega))) | (first | omega | (simp only [HS, FRS, CCS, am_R, fl91, fl87] at *; omega)) | (simp only [HS, FRS, CCS, fl91, fl87])) (fun c1 => absurd rfl c1) (fun c1 => ?_)
        refine am_W.cv 10 m_Mo_isSign rfl rfl rfl rfl (by and_intros <;> first | trivial | exact okI rfl rfl rfl | (refine okrI rfl rfl rfl rfl ?_ ?_ <;> (first | omega | (simp only [HS, FRS, CCS, am_R, fl91, fl87] at *; omega))) | (refine okaI rfl rfl rfl rfl ?_ ?_ <;> (first | omega | (simp only [HS, FRS, CCS, am_R, fl91, fl87] at *; omega))) | (first | omega | (simp only [HS, FRS, CCS, am_R, fl91, fl87] at *; omega)) | (simp only [HS, FRS, CCS, fl91, fl87])) (c_misSignF (d + 2) L B1 B2 f6 a6 aj 60 f61) ?_
        rintro r1 h1 ⟨rfl, rfl⟩
        refine am_W.br rfl rfl (by and_intros <;> first | trivial | exact okI rfl rfl rfl | (refine okrI rfl rfl rfl rfl ?_ ?_ <;> (first | omega | (simp only [HS, FRS, CCS, am_R, fl91, fl87] at *; omega))) | (refine okaI rfl rfl rfl rfl ?_ ?_ <;> (first | omega | (simp only [HS, FRS, CCS, am_R, fl91, fl87] at *; omega))) | (first | omega | (simp only [HS, FRS, CCS, am_R, fl91, fl87] at *; omega)) | (simp only [HS, FRS, CCS, fl91, fl87])) (fun c1 => absurd rfl c1) (fun c1 => ?_)
        refine am_W.cv 10 m_Mo_isSign rfl rfl rfl rfl (by and_intros <;> first | trivial | exact okI rfl rfl rfl | (refine okrI rfl rfl rfl rfl ?_ ?_ <;> (first | omega | (simp only [HS, FRS, CCS, am_R, fl91, fl87] at *; omega))) | (refine okaI rfl rfl rfl rfl ?_ ?_ <;> (first | omega | (simp only [HS, FRS, CCS, am_R, fl91, fl87] at *; omega))) | (first | omega | (simp only [HS, FRS, CCS, am_R, fl91, fl87] at *; omega)) | (simp only [HS, FRS, CCS, fl91, fl87])) (c_misSignF (d + 2) L B1 B2 f6 a6 aj 62 f61) ?_
        rintro r1 h1 ⟨rfl, rfl⟩
        refine am_W.br rfl rfl (by and_intros <;> first | trivial | exact okI rfl rfl rfl | (refine okrI rfl rfl rfl rfl ?_ ?_ <;> (first | omega | (simp only [HS, FRS, CCS, am_R, fl91, fl87] at *; omega))) | (refine okaI rfl rfl rfl rfl ?_ ?_ <;> (first | omega | (simp only [HS, FRS, CCS, am_R, fl91, fl87] at *; omega))) | (first | omega | (simp only [HS, FRS, CCS, am_R, fl91, fl87] at *; omega)) | (simp only [HS, FRS, CCS, fl91, fl87])) (fun c1 => absurd rfl c1) (fun c1 => ?_)
        refine am_W.br rfl rfl ?_ (fun c1 => ?_) (fun c1 => absurd c1 ?_)
        · simp only [HS, FRS, CCS, am_R, f61]
          exact (by and_intros <;> first | trivial | exact okI rfl rfl rfl | (refine okrI rfl rfl rfl rfl ?_ ?_ <;> (first | omega | (simp only [HS, FRS, CCS, am_R, fl91, fl87] at *; omega))) | (refine okaI rfl rfl rfl rfl ?_ ?_ <;> (first | omega | (simp only [HS, FRS, CCS, am_R, fl91, fl87] at *; omega))) | (first | omega | (simp only [HS, FRS, CCS, am_R, fl91, fl87] at *; omega)) | (simp only [HS, FRS, CCS, fl91, fl87]))
        · exact am_W.rt rfl rfl (by and_intros <;> first | trivial | exact okI rfl rfl rfl | (refine okrI rfl rfl rfl rfl ?_ ?_ <;> (first | omega | (simp only [HS, FRS, CCS, am_R, fl91, fl87] at *; omega))) | (refine okaI rfl rfl rfl rfl ?_ ?_ <;> (first | omega | (simp only [HS, FRS, CCS, am_R, fl91, fl87] at *; omega))) | (first | omega | (simp only [HS, FRS, CCS, am_R, fl91, fl87] at *; omega)) | (simp only [HS, FRS, CCS, fl91, fl87])) ⟨rfl, MoQ_f x6 x1 x2 x3⟩
        · simp only [HS, f61]
          decide
      cases hq4 : qIs 36 y with
      | inl e =>
        rw [hq4] at k3
        refine am_W.cv 10 m_Mo_wantNumber rfl rfl rfl rfl (by and_intros <;> first | trivial | exact okI rfl rfl rfl | (refine okrI rfl rfl rfl rfl ?_ ?_ <;> (first | omega | (simp only [HS, FRS, CCS, am_R, fl91, fl87] at *; omega))) | (refine okaI rfl rfl rfl rfl ?_ ?_ <;> (first | omega | (simp only [HS, FRS, CCS, am_R, fl91, fl87] at *; omega))) | (first | omega | (simp only [HS, FRS, CCS, am_R, fl91, fl87] at *; omega)) | (simp only [HS, FRS, CCS, fl91, fl87])) (c_mwantNumF (d + 2) L B1 B2 f4 a4 aj k k3.1) ?_
        rintro r1 h1 ⟨rfl, rfl⟩
        exact am_W.gp 74 rfl (by and_intros <;> first | trivial | exact okI rfl rfl rfl | (refine okrI rfl rfl rfl rfl ?_ ?_ <;> (first | omega | (simp only [HS, FRS, CCS, am_R, fl91, fl87] at *; omega))) | (refine okaI rfl rfl rfl rfl ?_ ?_ <;> (first | omega | (simp only [HS, FRS, CCS, am_R, fl91, fl87] at *; omega))) | (first | omega | (simp only [HS, FRS, CCS, am_R, fl91, fl87] at *; omega)) | (simp only [HS, FRS, CCS, fl91, fl87])) (hF _ f4 (am_u2 a4 154 m 0) e hF4 (hA1.tr (FO_u (by omega))) k3 rfl)
      | inr z =>
        rw [hq4] at k3
        obtain ⟨k4, k5, k6⟩ := k3
        rw [pb_r, pNum_q]
        refine am_W.cv 10 m_Mo_wantNumber rfl rfl rfl rfl (by and_intros <;> first | trivial | exact okI rfl rfl rfl | (refine okrI rfl rfl rfl rfl ?_ ?_ <;> (first | omega | (simp only [HS, FRS, CCS, am_R, fl91, fl87] at *; omega))) | (refine okaI rfl rfl rfl rfl ?_ ?_ <;> (first | omega | (simp only [HS, FRS, CCS, am_R, fl91, fl87] at *; omega))) | (first | omega | (simp only [HS, FRS, CCS, am_R, fl91, fl87] at *; omega)) | (simp only [HS, FRS, CCS, fl91, fl87])) (c_mwantNum d L B1 B2 f4 a4 aj k _ t ⟨by omega, by omega⟩ k4 k5 k6 (by rw [h131 hA1, hF4 60 126 (by omega)]; exact et)) ?_
        rintro r1 h1 ⟨v5, rfl, f5, a5, rfl, x1, rfl, x3⟩
        have hA5 : FO m ai (am_u2 a5 154 m v5) := hA1.tr (FO_u (by omega))
        have hF5 : FM fi f5 := hF4.tr x1
        refine am_W.gp 74 rfl (by and_intros <;> first | trivial | exact okI rfl rfl rfl | (refine okrI rfl rfl rfl rfl ?_ ?_ <;> (first | omega | (simp only [HS, FRS, CCS, am_R, fl91, fl87] at *; omega))) | (refine okaI rfl rfl rfl rfl ?_ ?_ <;> (first | omega | (simp only [HS, FRS, CCS, am_R, fl91, fl87] at *; omega))) | (first | omega | (simp only [HS, FRS, CCS, am_R, fl91, fl87] at *; omega)) | (simp only [HS, FRS, CCS, fl91, fl87])) ?_
        simp only [HS, FRS, fl91, fl87]
        cases hq5 : qNum k (lx t z.2.2.2 0) with
        | inl e =>
          rw [hq5] at x3
          exact hF _ f5 _ e hF5 hA5 x3 rfl
        | inr u =>
          rw [hq5] at x3
          obtain ⟨x4, x5, x6, x7, x8⟩ := x3
          rw [pb_r]
          have hL5 : LM f5 (am_u2 a5 154 m v5) := LM_a (am_u2_131 (by decide)) x5
          have e154 : am_u2 a5 154 m v5 154 m = u.2.2.1 := by rw [u2s]; exact x6
          have eb5 : ∀ b, b ≠ 153 → b ≠ 154 → am_u2 a5 154 m v5 b = ai b := fun b h1 h2 => by
            rw [show am_u2 a5 154 m v5 b = a5 b from funext fun j => u2n h2]
            exact hb1 b h1
          generalize am_u2 a5 154 m v5 = a6 at *
          obtain ⟨s1, s2, s3, s4⟩ := id x8
          have s61 : (f5 87 126 = 3 ∧ f5 88 126 = 61) ↔ (lx t u.2.2.2 0).2.1 = 61 := s3.2.2.2.2.2.2.2.2.1
          have s60 : (f5 87 126 = 3 ∧ f5 88 126 = 60) ↔ (lx t u.2.2.2 0).2.1 = 60 := s3.2.2.2.2.2.2.2.2.2.1
          have s62 : (f5 87 126 = 3 ∧ f5 88 126 = 62) ↔ (lx t u.2.2.2 0).2.1 = 62 := s3.2.2.2.2.2.2.2.2.2.2.1
          have o5 := hL5.2.2
          generalize lx t u.2.2.2 0 = s at *
          have hsy : (s.2.1 = 61 ∨ s.2.1 = 60 ∨ s.2.1 = 62) → am_W (am_ev am_prog (d + 3)) T_Mo_condition (fun w h' => w = none ∧ MoQ L B1 B2 aj fi (FO m ai) (if s.2.1 = 61 ∨ s.2.1 = 60 ∨ s.2.1 = 62 then pb (pIs t 1 s.2.2.2) (fun w => .inr ((s.2.1, u.2.2.1, w.2.2.1), lx t w.2.2.2 0)) else .inl (-10 - s.1)) (KCo m ai) h') (118, [some (.inr (.inr 126)), some (.inl m), some (.inl k)], [], HH L B1 B2 f5 a6 aj) := by
            intro hs
            have h88 : f5 88 126 = s.2.1 := by
              rcases hs with h | h | h
              · rw [h]; exact (s61.mpr h).2
              · rw [h]; exact (s60.mpr h).2
              · rw [h]; exact (s62.mpr h).2
            rw [if_pos hs]
            have hA6 : FO m ai (am_u2 a6 153 m (f5 88 126)) := hA5.tr (FO_u (by omega))
            refine am_W.cv 10 m_Mo_next rfl rfl rfl rfl (by and_intros <;> first | trivial | exact okI rfl rfl rfl | (refine okrI rfl rfl rfl rfl ?_ ?_ <;> (first | omega | (simp only [HS, FRS, CCS, am_R, fl91, fl87] at *; omega))) | (refine okaI rfl rfl rfl rfl ?_ ?_ <;> (first | omega | (simp only [HS, FRS, CCS, am_R, fl91, fl87] at *; omega))) | (first | omega | (simp only [HS, FRS, CCS, am_R, fl91, fl87] at *; omega)) | (simp only [HS, FRS, CCS, fl91, fl87])) (c_mnx (d + 1) L B1 B2 f5 (am_u2 a6 153 m (f5 88 126)) aj t s.2.2.2 (LM_a (am_u2_131 (by decide)) hL5) (by rw [h131 hA6, hF5 60 126 (by omega)]; exact et) s2) ?_
            rintro r1 h1 ⟨rfl, f7, rfl, w1, w2, w3, w4⟩
            have hF7 : FM fi f7 := hF5.tr w1
            refine am_W.cv 10 m_Mo_wantNumber rfl rfl rfl rfl (by and_intros <;> first | trivial | exact okI rfl rfl rfl | (refine okrI rfl rfl rfl rfl ?_ ?_ <;> (first | omega | (simp only [HS, FRS, CCS, am_R, fl91, fl87] at *; omega))) | (refine okaI rfl rfl rfl rfl ?_ ?_ <;> (first | omega | (simp only [HS, FRS, CCS, am_R, fl91, fl87] at *; omega))) | (first | omega | (simp only [HS, FRS, CCS, am_R, fl91, fl87] at *; omega)) | (simp only [HS, FRS, CCS, fl91, fl87])) (c_mwantNum d L B1 B2 f7 (am_u2 a6 153 m (f5 88 126)) aj 10000 _ t (by and_intros <;> first | trivial | exact okI rfl rfl rfl | (refine okrI rfl rfl rfl rfl ?_ ?_ <;> (first | omega | (simp only [HS, FRS, CCS, am_R, fl91, fl87] at *; omega))) | (refine okaI rfl rfl rfl rfl ?_ ?_ <;> (first | omega | (simp only [HS, FRS, CCS, am_R, fl91, fl87] at *; omega))) | (first | omega | (simp only [HS, FRS, CCS, am_R, fl91, fl87] at *; omega)) | (simp only [HS, FRS, CCS, fl91, fl87])) (w2.trans x4) w3 w4 (by rw [h131 hA6, hF7 60 126 (by omega)]; exact et)) ?_
            rintro r1 h1 ⟨v8, rfl, f8, a8, rfl, y1', rfl, y3'⟩
            have hA8 : FO m ai (am_u2 (am_u2 a6 153 m (f5 88 126)) 155 m v8) := hA6.tr (FO_u (by omega))
            have hpq : pIs t 1 s.2.2.2 = qNum 10000 (lx t s.2.2.2 0) := by
              rw [pIs_q, qIs, qNum]
              split
              · rw [if_pos (by have := w4.2.2.2; omega)]
              · rfl
            rw [hpq]
            cases hq8 : qNum 10000 (lx t s.2.2.2 0) with
            | inl e =>
              rw [hq8] at y3'
              exact am_W.rt rfl rfl (by and_intros <;> first | trivial | exact okI rfl rfl rfl | (refine okrI rfl rfl rfl rfl ?_ ?_ <;> (first | omega | (simp only [HS, FRS, CCS, am_R, fl91, fl87] at *; omega))) | (refine okaI rfl rfl rfl rfl ?_ ?_ <;> (first | omega | (simp only [HS, FRS, CCS, am_R, fl91, fl87] at *; omega))) | (first | omega | (simp only [HS, FRS, CCS, am_R, fl91, fl87] at *; omega)) | (simp only [HS, FRS, CCS, fl91, fl87])) ⟨rfl, MoQ_f (f1 := f8) (a1 := am_u2 (am_u2 a6 153 m (f5 88 126)) 155 m v8) rfl (hF7.tr y1') hA8 y3'⟩
            | inr w =>
              rw [hq8] at y3'
              obtain ⟨q4, q5, q6, q7, q8⟩ := y3'
              refine am_W.rt rfl rfl (by and_intros <;> first | trivial | exact okI rfl rfl rfl | (refine okrI rfl rfl rfl rfl ?_ ?_ <;> (first | omega | (simp only [HS, FRS, CCS, am_R, fl91, fl87] at *; omega))) | (refine okaI rfl rfl rfl rfl ?_ ?_ <;> (first | omega | (simp only [HS, FRS, CCS, am_R, fl91, fl87] at *; omega))) | (first | omega | (simp only [HS, FRS, CCS, am_R, fl91, fl87] at *; omega)) | (simp only [HS, FRS, CCS, fl91, fl87])) ⟨rfl, MoQ_y (f1 := f8) (a1 := am_u2 (am_u2 a6 153 m (f5 88 126)) 155 m v8) (a := ((s.2.1, u.2.2.1, w.2.2.1), lx t w.2.2.2 0)) rfl (hF7.tr y1') hA8 q4 (LM_a (am_u2_131 (by decide)) q5) ⟨?_, fun _ => ?_, fun _ _ => ?_, q8, ?_⟩⟩
              · rw [u2n (by decide), u2s, h88]
                show s.2.1 = sg s.2.1
                rw [sg, if_neg (by omega), if_neg (by omega)]
              · rw [u2n (by decide), u2n (by decide)]
                exact e154
              · rw [u2s]
                exact q6
              · intro b h1 h2 h3
                rw [show am_u2 (am_u2 a6 153 m (f5 88 126)) 155 m v8 b = a6 b from funext fun j => by rw [u2n h3, u2n h1]]
                exact eb5 b h1 h2
          have hsg : ∀ v : Int, (v = 61 ∨ v = 60 ∨ v = 62) → am_M am_prog (d + 3) m_Mo_isSign [.inr (.inr 126), .inl v] (HH L B1 B2 f5 a6 aj) (fun w h' => w = some (.inl (if f5 91 126 = 0 ∧ f5 87 126 = 3 ∧ f5 88 126 = v then 1 else 0)) ∧ h' = HH L B1 B2 f5 a6 aj) := fun v hv => c_misSign (d + 2) L B1 B2 f5 a6 aj v ⟨by omega, by omega⟩ (Or.inl x4) ⟨by omega, by omega⟩ ⟨by omega, by omega⟩
          refine am_W.cv 10 m_Mo_isSign rfl rfl rfl rfl (by and_intros <;> first | trivial | exact okI rfl rfl rfl | (refine okrI rfl rfl rfl rfl ?_ ?_ <;> (first | omega | (simp only [HS, FRS, CCS, am_R, fl91, fl87] at *; omega))) | (refine okaI rfl rfl rfl rfl ?_ ?_ <;> (first | omega | (simp only [HS, FRS, CCS, am_R, fl91, fl87] at *; omega))) | (first | omega | (simp only [HS, FRS, CCS, am_R, fl91, fl87] at *; omega)) | (simp only [HS, FRS, CCS, fl91, fl87])) (hsg 61 (by omega)) ?_
          rintro r1 h1 ⟨rfl, rfl⟩
          by_cases h61 : s.2.1 = 61
          · rw [show (if f5 91 126 = 0 ∧ f5 87 126 = 3 ∧ f5 88 126 = 61 then (1 : Int) else 0) = 1 from if_pos ⟨x4, s61.mpr h61⟩]
            exact am_W.br rfl rfl (by and_intros <;> first | trivial | exact okI rfl rfl rfl | (refine okrI rfl rfl rfl rfl ?_ ?_ <;> (first | omega | (simp only [HS, FRS, CCS, am_R, fl91, fl87] at *; omega))) | (refine okaI rfl rfl rfl rfl ?_ ?_ <;> (first | omega | (simp only [HS, FRS, CCS, am_R, fl91, fl87] at *; omega))) | (first | omega | (simp only [HS, FRS, CCS, am_R, fl91, fl87] at *; omega)) | (simp only [HS, FRS, CCS, fl91, fl87])) (fun c1 => hsy (Or.inl h61)) (fun c1 => absurd c1 (by decide))
          rw [show (if f5 91 126 = 0 ∧ f5 87 126 = 3 ∧ f5 88 126 = 61 then (1 : Int) else 0) = 0 from if_neg (fun z => h61 (s61.mp z.2))]
          refine am_W.br rfl rfl (by and_intros <;> first | trivial | exact okI rfl rfl rfl | (refine okrI rfl rfl rfl rfl ?_ ?_ <;> (first | omega | (simp only [HS, FRS, CCS, am_R, fl91, fl87] at *; omega))) | (refine okaI rfl rfl rfl rfl ?_ ?_ <;> (first | omega | (simp only [HS, FRS, CCS, am_R, fl91, fl87] at *; omega))) | (first | omega | (simp only [HS, FRS, CCS, am_R, fl91, fl87] at *; omega)) | (simp only [HS, FRS, CCS, fl91, fl87])) (fun c1 => absurd rfl c1) (fun c1 => ?_)
          refine am_W.cv 10 m_Mo_isSign rfl rfl rfl rfl (by and_intros <;> first | trivial | exact okI rfl rfl rfl | (refine okrI rfl rfl rfl rfl ?_ ?_ <;> (first | omega | (simp only [HS, FRS, CCS, am_R, fl91, fl87] at *; omega))) | (refine okaI rfl rfl rfl rfl ?_ ?_ <;> (first | omega | (simp only [HS, FRS, CCS, am_R, fl91, fl87] at *; omega))) | (first | omega | (simp only [HS, FRS, CCS, am_R, fl91, fl87] at *; omega)) | (simp only [HS, FRS, CCS, fl91, fl87])) (hsg 60 (by omega)) ?_
          rintro r1 h1 ⟨rfl, rfl⟩
          by_cases h60 : s.2.1 = 60
          · rw [show (if f5 91 126 = 0 ∧ f5 87 126 = 3 ∧ f5 88 126 = 60 then (1 : Int) else 0) = 1 from if_pos ⟨x4, s60.mpr h60⟩]
            exact am_W.br rfl rfl (by and_intros <;> first | trivial | exact okI rfl rfl rfl | (refine okrI rfl rfl rfl rfl ?_ ?_ <;> (first | omega | (simp only [HS, FRS, CCS, am_R, fl91, fl87] at *; omega))) | (refine okaI rfl rfl rfl rfl ?_ ?_ <;> (first | omega | (simp only [HS, FRS, CCS, am_R, fl91, fl87] at *; omega))) | (first | omega | (simp only [HS, FRS, CCS, am_R, fl91, fl87] at *; omega)) | (simp only [HS, FRS, CCS, fl91, fl87])) (fun c1 => hsy (Or.inr (Or.inl h60))) (fun c1 => absurd c1 (by decide))
          rw [show (if f5 91 126 = 0 ∧ f5 87 126 = 3 ∧ f5 88 126 = 60 then (1 : Int) else 0) = 0 from if_neg (fun z => h60 (s60.mp z.2))]
          refine am_W.br rfl rfl (by and_intros <;> first | trivial | exact okI rfl rfl rfl | (refine okrI rfl rfl rfl rfl ?_ ?_ <;> (first | omega | (simp only [HS, FRS, CCS, am_R, fl91, fl87] at *; omega))) | (refine okaI rfl rfl rfl rfl ?_ ?_ <;> (first | omega | (simp only [HS, FRS, CCS, am_R, fl91, fl87] at *; omega))) | (first | omega | (simp only [HS, FRS, CCS, am_R, fl91, fl87] at *; omega)) | (simp only [HS, FRS, CCS, fl91, fl87])) (fun c1 => absurd rfl c1) (fun c1 => ?_)
          refine am_W.cv 10 m_Mo_isSign rfl rfl rfl rfl (by and_intros <;> first | trivial | exact okI rfl rfl rfl | (refine okrI rfl rfl rfl rfl ?_ ?_ <;> (first | omega | (simp only [HS, FRS, CCS, am_R, fl91, fl87] at *; omega))) | (refine okaI rfl rfl rfl rfl ?_ ?_ <;> (first | omega | (simp only [HS, FRS, CCS, am_R, fl91, fl87] at *; omega))) | (first | omega | (simp only [HS, FRS, CCS, am_R, fl91, fl87] at *; omega)) | (simp only [HS, FRS, CCS, fl91, fl87])) (hsg 62 (by omega)) ?_
          rintro r1 h1 ⟨rfl, rfl⟩
          by_cases h62 : s.2.1 = 62
          · rw [show (if f5 91 126 = 0 ∧ f5 87 126 = 3 ∧ f5 88 126 = 62 then (1 : Int) else 0) = 1 from if_pos ⟨x4, s62.mpr h62⟩]
            exact am_W.br rfl rfl (by and_intros <;> first | trivial | exact okI rfl rfl rfl | (refine okrI rfl rfl rfl rfl ?_ ?_ <;> (first | omega | (simp only [HS, FRS, CCS, am_R, fl91, fl87] at *; omega))) | (refine okaI rfl rfl rfl rfl ?_ ?_ <;> (first | omega | (simp only [HS, FRS, CCS, am_R, fl91, fl87] at *; omega))) | (first | omega | (simp only [HS, FRS, CCS, am_R, fl91, fl87] at *; omega)) | (simp only [HS, FRS, CCS, fl91, fl87])) (fun c1 => hsy (Or.inr (Or.inr h62))) (fun c1 => absurd c1 (by decide))
          rw [show (if f5 91 126 = 0 ∧ f5 87 126 = 3 ∧ f5 88 126 = 62 then (1 : Int) else 0) = 0 from if_neg (fun z => h62 (s62.mp z.2))]
          refine am_W.br rfl rfl (by and_intros <;> first | trivial | exact okI rfl rfl rfl | (refine okrI rfl rfl rfl rfl ?_ ?_ <;> (first | omega | (simp only [HS, FRS, CCS, am_R, fl91, fl87] at *; omega))) | (refine okaI rfl rfl rfl rfl ?_ ?_ <;> (first | omega | (simp only [HS, FRS, CCS, am_R, fl91, fl87] at *; omega))) | (first | omega | (simp only [HS, FRS, CCS, am_R, fl91, fl87] at *; omega)) | (simp only [HS, FRS, CCS, fl91, fl87])) (fun c1 => absurd rfl c1) (fun c1 => ?_)
          rw [if_neg (by omega)]
          refine am_W.br rfl rfl ?_ (fun c2 => absurd c2 ?_) (fun c2 => ?_)
          · simp only [HS, FRS, CCS, am_R, x4]
            exact (by and_intros <;> first | trivial | exact okI rfl rfl rfl | (refine okrI rfl rfl rfl rfl ?_ ?_ <;> (first | omega | (simp only [HS, FRS, CCS, am_R, fl91, fl87] at *; omega))) | (refine okaI rfl rfl rfl rfl ?_ ?_ <;> (first | omega | (simp only [HS, FRS, CCS, am_R, fl91, fl87] at *; omega))) | (first | omega | (simp only [HS, FRS, CCS, am_R, fl91, fl87] at *; omega)) | (simp only [HS, FRS, CCS, fl91, fl87]))
          · simp only [HS, x4]
            decide
          refine am_W.cv 10 m_Mo_fail rfl rfl rfl rfl (by and_intros <;> first | trivial | exact okI rfl rfl rfl | (refine okrI rfl rfl rfl rfl ?_ ?_ <;> (first | omega | (simp only [HS, FRS, CCS, am_R, fl91, fl87] at *; omega))) | (refine okaI rfl rfl rfl rfl ?_ ?_ <;> (first | omega | (simp only [HS, FRS, CCS, am_R, fl91, fl87] at *; omega))) | (first | omega | (simp only [HS, FRS, CCS, am_R, fl91, fl87] at *; omega)) | (simp only [HS, FRS, CCS, fl91, fl87])) (c_mfail (d + 2) L B1 B2 f5 a6 aj 0 (f5 89 126) x4 (Or.inl rfl) ⟨by omega, by omega⟩) ?_
          rintro r1 h1 ⟨rfl, f9, rfl, w1, w2, w3⟩
          rw [if_neg (by decide), s1] at w2
          exact am_W.rt rfl rfl (by and_intros <;> first | trivial | exact okI rfl rfl rfl | (refine okrI rfl rfl rfl rfl ?_ ?_ <;> (first | omega | (simp only [HS, FRS, CCS, am_R, fl91, fl87] at *; omega))) | (refine okaI rfl rfl rfl rfl ?_ ?_ <;> (first | omega | (simp only [HS, FRS, CCS, am_R, fl91, fl87] at *; omega))) | (first | omega | (simp only [HS, FRS, CCS, am_R, fl91, fl87] at *; omega)) | (simp only [HS, FRS, CCS, fl91, fl87])) ⟨rfl, MoQ_f rfl (hF5.tr w1) hA5 w2⟩
  · rw [if_neg hy, if_neg (fun z => hy (hRif.mp z.2))]
    refine am_W.br rfl rfl (by and_intros <;> first | trivial | exact okI rfl rfl rfl | (refine okrI rfl rfl rfl rfl ?_ ?_ <;> (first | omega | (simp only [HS, FRS, CCS, am_R, fl91, fl87] at *; omega))) | (refine okaI rfl rfl rfl rfl ?_ ?_ <;> (first | omega | (simp only [HS, FRS, CCS, am_R, fl91, fl87] at *; omega))) | (first | omega | (simp only [HS, FRS, CCS, am_R, fl91, fl87] at *; omega)) | (simp only [HS, FRS, CCS, fl91, fl87])) (fun c1 => absurd rfl c1) (fun c1 => ?_)
    exact am_W.rt rfl rfl (by and_intros <;> first | trivial | exact okI rfl rfl rfl | (refine okrI rfl rfl rfl rfl ?_ ?_ <;> (first | omega | (simp only [HS, FRS, CCS, am_R, fl91, fl87] at *; omega))) | (refine okaI rfl rfl rfl rfl ?_ ?_ <;> (first | omega | (simp only [HS, FRS, CCS, am_R, fl91, fl87] at *; omega))) | (first | omega | (simp only [HS, FRS, CCS, am_R, fl91, fl87] at *; omega)) | (simp only [HS, FRS, CCS, fl91, fl87])) ⟨rfl, MoQ_y (a := ((-1, 0, 0), σ)) rfl FM.rf hA1 h91 hL1 ⟨e153, fun q => absurd rfl q, fun q => absurd rfl q, hT, fun b h1 h2 h3 => hb1 b h1⟩⟩
