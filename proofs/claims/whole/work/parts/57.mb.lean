-- the reference's reader: objects
set_option maxHeartbeats 400000 in
set_option maxRecDepth 100000 in
theorem c_mobject (d L B1 B2 : Nat) (fi : Nat → Nat → Int) (ai aj : Nat → Int → Int) (m k s : Int) (σ : Tk) (t : Int → Int) (hm : 0 ≤ m ∧ m < 6) (hk : 0 ≤ k ∧ k ≤ 4) (h91 : fi 91 126 = 0) (hL : LM fi ai) (hT : TM fi σ) (et : tx (fi 60 126) (ai 131) = t) (hI : DI (DM fi ai)) (hs : ai 144 m = s ∧ am_R s) : am_M am_prog (d + 5) m_Mo_object [.inr (.inr 126), .inl m, .inl k] (HH L B1 B2 fi ai aj) (fun w h' => w = none ∧ MoQ L B1 B2 aj fi (FO m ai) (pObj t (DM fi ai) s k σ) (KOb m t ai) h') := by
  have fl91 := h91
  have fl87 : True := trivial
  obtain ⟨l1, l2, l3, l4, l5⟩ := id hL
  have hR36 : (fi 87 126 = 3 ∧ fi 88 126 = 36) ↔ σ.2.1 = 36 := hT.2.2.1.2.2.2.2.2.2.1
  have tb := hT.2.1
  have hn4 := hI.1
  simp only [] at hn4
  refine am_W.of rfl rfl ?_
  have hA1 : FO m ai (am_u2 ai 149 m (-1)) := FO_u (by omega)
  have hL1 : LM fi (am_u2 ai 149 m (-1)) := LM_a (am_u2_131 (by decide)) hL
  have et1 : tx (fi 60 126) (am_u2 ai 149 m (-1) 131) = t := by rw [am_u2_131 (by decide)]; exact et
  unfold pObj
  refine am_W.cv 10 m_Mo_isSign rfl rfl rfl rfl (by and_intros <;> first | trivial | exact okI rfl rfl rfl | (refine okrI rfl rfl rfl rfl ?_ ?_ <;> (first | omega | (simp only [HS, FRS, CCS, am_R, fl91, fl87] at *; omega))) | (refine okaI rfl rfl rfl rfl ?_ ?_ <;> (first | omega | (simp only [HS, FRS, CCS, am_R, fl91, fl87] at *; omega))) | (first | omega | (simp only [HS, FRS, CCS, am_R, fl91, fl87] at *; omega)) | (simp only [HS, FRS, CCS, fl91, fl87])) (c_misSign (d + 3) L B1 B2 fi (am_u2 ai 149 m (-1)) aj 36 (by and_intros <;> first | trivial | exact okI rfl rfl rfl | (refine okrI rfl rfl rfl rfl ?_ ?_ <;> (first | omega | (simp only [HS, FRS, CCS, am_R, fl91, fl87] at *; omega))) | (refine okaI rfl rfl rfl rfl ?_ ?_ <;> (first | omega | (simp only [HS, FRS, CCS, am_R, fl91, fl87] at *; omega))) | (first | omega | (simp only [HS, FRS, CCS, am_R, fl91, fl87] at *; omega)) | (simp only [HS, FRS, CCS, fl91, fl87])) (Or.inl h91) ⟨by omega, by omega⟩ ⟨by omega, by omega⟩) ?_
  rintro r1 h1 ⟨rfl, rfl⟩
  by_cases hy : σ.2.1 = 36
  · rw [if_pos hy, if_pos ⟨h91, hR36.mpr hy⟩]
    refine am_W.br rfl rfl (by and_intros <;> first | trivial | exact okI rfl rfl rfl | (refine okrI rfl rfl rfl rfl ?_ ?_ <;> (first | omega | (simp only [HS, FRS, CCS, am_R, fl91, fl87] at *; omega))) | (refine okaI rfl rfl rfl rfl ?_ ?_ <;> (first | omega | (simp only [HS, FRS, CCS, am_R, fl91, fl87] at *; omega))) | (first | omega | (simp only [HS, FRS, CCS, am_R, fl91, fl87] at *; omega)) | (simp only [HS, FRS, CCS, fl91, fl87])) (fun c1 => ?_) (fun c1 => absurd c1 (by decide))
    refine am_W.cv 10 m_Mo_next rfl rfl rfl rfl (by and_intros <;> first | trivial | exact okI rfl rfl rfl | (refine okrI rfl rfl rfl rfl ?_ ?_ <;> (first | omega | (simp only [HS, FRS, CCS, am_R, fl91, fl87] at *; omega))) | (refine okaI rfl rfl rfl rfl ?_ ?_ <;> (first | omega | (simp only [HS, FRS, CCS, am_R, fl91, fl87] at *; omega))) | (first | omega | (simp only [HS, FRS, CCS, am_R, fl91, fl87] at *; omega)) | (simp only [HS, FRS, CCS, fl91, fl87])) (c_mnx (d + 2) L B1 B2 fi (am_u2 ai 149 m (-1)) aj t σ.2.2.2 hL1 et1 tb) ?_
    rintro r1 h1 ⟨rfl, f2, rfl, g1, g2, g3, g4⟩
    have g91 : f2 91 126 = 0 := g2.trans h91
    generalize ea1 : am_u2 ai 149 m (-1) = a1 at *
    have a149 : a1 149 m = -1 := by rw [← ea1, u2s]
    have hA2 : FO m ai (am_u2 a1 145 (3 * m + 2) 2) := hA1.tr (FO_v (by omega) ⟨by omega, by omega⟩)
    have h131 : ∀ {b : Nat → Int → Int}, FO m ai b → b 131 = ai 131 := fun h => h.1 131 (by omega)
    refine am_W.cv 10 m_Mo_wantNumber rfl rfl rfl rfl (by and_intros <;> first | trivial | exact okI rfl rfl rfl | (refine okrI rfl rfl rfl rfl ?_ ?_ <;> (first | omega | (simp only [HS, FRS, CCS, am_R, fl91, fl87] at *; omega))) | (refine okaI rfl rfl rfl rfl ?_ ?_ <;> (first | omega | (simp only [HS, FRS, CCS, am_R, fl91, fl87] at *; omega))) | (first | omega | (simp only [HS, FRS, CCS, am_R, fl91, fl87] at *; omega)) | (simp only [HS, FRS, CCS, fl91, fl87])) (c_mwantNum (d + 1) L B1 B2 f2 (am_u2 a1 145 (3 * m + 2) 2) aj 4 _ t (by and_intros <;> first | trivial | exact okI rfl rfl rfl | (refine okrI rfl rfl rfl rfl ?_ ?_ <;> (first | omega | (simp only [HS, FRS, CCS, am_R, fl91, fl87] at *; omega))) | (refine okaI rfl rfl rfl rfl ?_ ?_ <;> (first | omega | (simp only [HS, FRS, CCS, am_R, fl91, fl87] at *; omega))) | (first | omega | (simp only [HS, FRS, CCS, am_R, fl91, fl87] at *; omega)) | (simp only [HS, FRS, CCS, fl91, fl87])) g91 (LM_a (am_u2_131 (by decide)) g3) g4 (by rw [h131 hA2, g1 60 126 (by omega)]; exact et)) ?_
    rintro r1 h1 ⟨c, rfl, f3, a3, rfl, k1, rfl, k3⟩
    have e89 : f2 89 126 = (lx t σ.2.2.2 0).1 := g4.1
    have g5 := g3.2.2.2.2
    rw [pNum_q]
    generalize lx t σ.2.2.2 0 = y0 at *
    have hF3 : FM fi f3 := g1.tr k1
    have hA3 : FO m ai (am_u2 (am_u2 a1 145 (3 * m + 2) 2) 146 (3 * m + 2) c) := hA2.tr (FO_v (by omega) ⟨by omega, by omega⟩)
    cases hqn : qNum 4 y0 with
    | inl e =>
      rw [hqn] at k3
      have fz := k3.1
      refine am_W.br rfl rfl ?_ (fun c3 => absurd c3 ?_) (fun c3 => ?_)
      · simp only [HS, FRS, CCS, am_R, fz]
        exact (by and_intros <;> first | trivial | exact okI rfl rfl rfl | (refine okrI rfl rfl rfl rfl ?_ ?_ <;> (first | omega | (simp only [HS, FRS, CCS, am_R, fl91, fl87] at *; omega))) | (refine okaI rfl rfl rfl rfl ?_ ?_ <;> (first | omega | (simp only [HS, FRS, CCS, am_R, fl91, fl87] at *; omega))) | (first | omega | (simp only [HS, FRS, CCS, am_R, fl91, fl87] at *; omega)) | (simp only [HS, FRS, CCS, fl91, fl87]))
      · simp only [HS, fz]
        decide
      · exact am_W.rt rfl rfl (by and_intros <;> first | trivial | exact okI rfl rfl rfl | (refine okrI rfl rfl rfl rfl ?_ ?_ <;> (first | omega | (simp only [HS, FRS, CCS, am_R, fl91, fl87] at *; omega))) | (refine okaI rfl rfl rfl rfl ?_ ?_ <;> (first | omega | (simp only [HS, FRS, CCS, am_R, fl91, fl87] at *; omega))) | (first | omega | (simp only [HS, FRS, CCS, am_R, fl91, fl87] at *; omega)) | (simp only [HS, FRS, CCS, fl91, fl87])) ⟨rfl, MoQ_f (f1 := f3) (a1 := am_u2 (am_u2 a1 145 (3 * m + 2) 2) 146 (3 * m + 2) c) rfl hF3 hA3 k3⟩
    | inr y =>
      rw [hqn] at k3
      obtain ⟨k4, k5, k6, k7, k8⟩ := k3
      have ey : y = y0 := by
        unfold qNum at hqn
        split at hqn
        · split at hqn
          · cases hqn
            rfl
          · cases hqn
        · cases hqn
      subst ey
      rw [pb_r]
      have q145 : am_u2 (am_u2 a1 145 (3 * m + 2) 2) 146 (3 * m + 2) c 145 (3 * m + 2) = 2 := by rw [u2n (by decide), u2s]
      have q146 : am_u2 (am_u2 a1 145 (3 * m + 2) 2) 146 (3 * m + 2) c 146 (3 * m + 2) = y.2.2.1 := by rw [u2s]; exact k6
      have q149 : am_u2 (am_u2 a1 145 (3 * m + 2) 2) 146 (3 * m + 2) c 149 m = -1 := by rw [u2n (by decide), u2n (by decide)]; exact a149
      have qb : ∀ b, b = 144 ∨ 150 ≤ b → am_u2 (am_u2 a1 145 (3 * m + 2) 2) 146 (3 * m + 2) c b = ai b := fun b hb => funext fun j => by rw [u2n (by omega), u2n (by omega), ← ea1, u2n (by omega)]
      have qc : ∀ b k, k ≠ 3 * m + 2 → (145 ≤ b ∧ b ≤ 147) → am_u2 (am_u2 a1 145 (3 * m + 2) 2) 146 (3 * m + 2) c b k = ai b k := fun b k p q => by rw [u2a p, u2a p, ← ea1, u2n (by omega)]
      have qd : ∀ k, am_u2 (am_u2 a1 145 (3 * m + 2) 2) 146 (3 * m + 2) c 148 k = ai 148 k := fun k => by rw [u2n (by decide), u2n (by decide), ← ea1, u2n (by decide)]
      have k5' : LM f3 (am_u2 (am_u2 a1 145 (3 * m + 2) 2) 146 (3 * m + 2) c) := LM_a (by rw [h131 hA3, h131 hA2]) k5
      refine am_W.gp 62 rfl (by and_intros <;> first | trivial | exact okI rfl rfl rfl | (refine okrI rfl rfl rfl rfl ?_ ?_ <;> (first | omega | (simp only [HS, FRS, CCS, am_R, fl91, fl87] at *; omega))) | (refine okaI rfl rfl rfl rfl ?_ ?_ <;> (first | omega | (simp only [HS, FRS, CCS, am_R, fl91, fl87] at *; omega))) | (first | omega | (simp only [HS, FRS, CCS, am_R, fl91, fl87] at *; omega)) | (simp only [HS, FRS, CCS, fl91, fl87])) ?_
      simp only [HS, FRS, fl91, fl87]
      generalize am_u2 (am_u2 a1 145 (3 * m + 2) 2) 146 (3 * m + 2) c = a4 at *
      clear ea1 hA2 hA1 hL1 et1
      obtain ⟨z1, z2, z3, z4⟩ := id k8
      have zR : (f3 87 126 = 1 ∧ f3 88 126 = 3) ↔ (lx t y.2.2.2 0).2.1 = 28518 := z3.2.2.2.2.2.2.2.2.2.2.2.2.2.2.1
      have o3 := k5'.2.2
      generalize lx t y.2.2.2 0 = z at *
      refine am_W.br rfl rfl ?_ (fun c3 => ?_) (fun c3 => absurd ?_ c3)
      · simp only [HS, FRS, CCS, am_R, k4]
        exact (by and_intros <;> first | trivial | exact okI rfl rfl rfl | (refine okrI rfl rfl rfl rfl ?_ ?_ <;> (first | omega | (simp only [HS, FRS, CCS, am_R, fl91, fl87] at *; omega))) | (refine okaI rfl rfl rfl rfl ?_ ?_ <;> (first | omega | (simp only [HS, FRS, CCS, am_R, fl91, fl87] at *; omega))) | (first | omega | (simp only [HS, FRS, CCS, am_R, fl91, fl87] at *; omega)) | (simp only [HS, FRS, CCS, fl91, fl87]))
      · refine am_W.cv 10 m_Mo_isWord rfl rfl rfl rfl (by and_intros <;> first | trivial | exact okI rfl rfl rfl | (refine okrI rfl rfl rfl rfl ?_ ?_ <;> (first | omega | (simp only [HS, FRS, CCS, am_R, fl91, fl87] at *; omega))) | (refine okaI rfl rfl rfl rfl ?_ ?_ <;> (first | omega | (simp only [HS, FRS, CCS, am_R, fl91, fl87] at *; omega))) | (first | omega | (simp only [HS, FRS, CCS, am_R, fl91, fl87] at *; omega)) | (simp only [HS, FRS, CCS, fl91, fl87])) (c_misWord (d + 3) L B1 B2 f3 a4 aj 3 (by and_intros <;> first | trivial | exact okI rfl rfl rfl | (refine okrI rfl rfl rfl rfl ?_ ?_ <;> (first | omega | (simp only [HS, FRS, CCS, am_R, fl91, fl87] at *; omega))) | (refine okaI rfl rfl rfl rfl ?_ ?_ <;> (first | omega | (simp only [HS, FRS, CCS, am_R, fl91, fl87] at *; omega))) | (first | omega | (simp only [HS, FRS, CCS, am_R, fl91, fl87] at *; omega)) | (simp only [HS, FRS, CCS, fl91, fl87])) (Or.inl k4) ⟨by omega, by omega⟩ ⟨by omega, by omega⟩) ?_
        rintro r1 h1 ⟨rfl, rfl⟩
        by_cases hz : z.2.1 = 28518
        · rw [if_pos hz, if_pos ⟨k4, zR.mpr hz⟩]
          refine am_W.br rfl rfl (by and_intros <;> first | trivial | exact okI rfl rfl rfl | (refine okrI rfl rfl rfl rfl ?_ ?_ <;> (first | omega | (simp only [HS, FRS, CCS, am_R, fl91, fl87] at *; omega))) | (refine okaI rfl rfl rfl rfl ?_ ?_ <;> (first | omega | (simp only [HS, FRS, CCS, am_R, fl91, fl87] at *; omega))) | (first | omega | (simp only [HS, FRS, CCS, am_R, fl91, fl87] at *; omega)) | (simp only [HS, FRS, CCS, fl91, fl87])) (fun c4 => ?_) (fun c4 => absurd c4 (by decide))
          refine am_W.cv 10 m_Mo_next rfl rfl rfl rfl (by and_intros <;> first | trivial | exact okI rfl rfl rfl | (refine okrI rfl rfl rfl rfl ?_ ?_ <;> (first | omega | (simp only [HS, FRS, CCS, am_R, fl91, fl87] at *; omega))) | (refine okaI rfl rfl rfl rfl ?_ ?_ <;> (first | omega | (simp only [HS, FRS, CCS, am_R, fl91, fl87] at *; omega))) | (first | omega | (simp only [HS, FRS, CCS, am_R, fl91, fl87] at *; omega)) | (simp only [HS, FRS, CCS, fl91, fl87])) (c_mnx (d + 2) L B1 B2 f3 a4 aj t z.2.2.2 k5' (by rw [h131 hA3, hF3 60 126 (by omega)]; exact et) z2) ?_
          rintro r1 h1 ⟨rfl, f4, rfl, i1, i2, i3, i4⟩
          have hF4 : FM fi f4 := hF3.tr i1
          have i91 : f4 91 126 = 0 := i2.trans k4
          have e54 : f4 54 126 = fi 54 126 := hF4 54 126 (by omega)
          have i89 := i4.1
          have i5 := i3.2.2.2.2
          have es : ∀ a5 : Nat → Int → Int, am_gf (HH L B1 B2 f4 a5 aj) 54 126 0 = .inl (fi 54 126) := fun a5 => by rw [← e54]; rfl
          refine am_W.cv 10 m_Mo_wantNumber rfl rfl rfl rfl (by and_intros <;> first | trivial | exact okI rfl rfl rfl | (refine okrI rfl rfl rfl rfl ?_ ?_ <;> (first | omega | (simp only [HS, FRS, CCS, am_R, fl91, fl87] at *; omega))) | (refine okaI rfl rfl rfl rfl ?_ ?_ <;> (first | omega | (simp only [HS, FRS, CCS, am_R, fl91, fl87] at *; omega))) | (first | omega | (simp only [HS, FRS, CCS, am_R, fl91, fl87] at *; omega)) | (simp only [HS, FRS, CCS, fl91, fl87])) (by rw [es]; exact c_mwantNum (d + 1) L B1 B2 f4 a4 aj (fi 54 126) _ t ⟨by omega, by omega⟩ i91 i3 i4 (by rw [h131 hA3, hF4 60 126 (by omega)]; exact et)) ?_
          rintro r1 h1 ⟨s2, rfl, f5, a5, rfl, j1, rfl, j3⟩
          have hF5 : FM fi f5 := hF4.tr j1
          have hR : pJoin t (DM fi ai) s k y.2.2.1 y.1 z.2.2.2 = pb (qNum (fi 54 126) (lx t z.2.2.2 0)) fun y2 => if y2.2.2.1 = s then .inl (-1000 - y2.1) else if co (DM fi ai) y2.2.2.1 ≤ y.2.2.1 then .inl (-1000 - y.1) else pb (pIs t 25209 y2.2.2.2) fun z => pb (pNum t k z.2.2.2) fun u => pb (pNum t (co (DM fi ai) y2.2.2.1) u.2.2.2) fun w => .inr ((y2.2.2.1, u.2.2.1, w.2.2.1), lx t w.2.2.2 0) := rfl
          rw [hR]
          clear hR
          generalize lx t z.2.2.2 0 = y2 at *
          cases hq2 : qNum (fi 54 126) y2 with
          | inl e =>
            rw [hq2] at j3
            have fz := j3.1
            refine am_W.br rfl rfl ?_ (fun c5 => ?_) (fun c5 => absurd c5 ?_)
            · simp only [HS, FRS, CCS, am_R, fz]
              exact (by and_intros <;> first | trivial | exact okI rfl rfl rfl | (refine okrI rfl rfl rfl rfl ?_ ?_ <;> (first | omega | (simp only [HS, FRS, CCS, am_R, fl91, fl87] at *; omega))) | (refine okaI rfl rfl rfl rfl ?_ ?_ <;> (first | omega | (simp only [HS, FRS, CCS, am_R, fl91, fl87] at *; omega))) | (first | omega | (simp only [HS, FRS, CCS, am_R, fl91, fl87] at *; omega)) | (simp only [HS, FRS, CCS, fl91, fl87]))
            · refine am_W.br rfl rfl ?_ (fun c6 => absurd c6 ?_) (fun c6 => ?_)
              · simp only [HS, FRS, CCS, am_R, fz]
                exact (by and_intros <;> first | trivial | exact okI rfl rfl rfl | (refine okrI rfl rfl rfl rfl ?_ ?_ <;> (first | omega | (simp only [HS, FRS, CCS, am_R, fl91, fl87] at *; omega))) | (refine okaI rfl rfl rfl rfl ?_ ?_ <;> (first | omega | (simp only [HS, FRS, CCS, am_R, fl91, fl87] at *; omega))) | (first | omega | (simp only [HS, FRS, CCS, am_R, fl91, fl87] at *; omega)) | (simp only [HS, FRS, CCS, fl91, fl87]))
              · simp only [HS, fz]
                decide
              · exact am_W.rt rfl rfl (by and_intros <;> first | trivial | exact okI rfl rfl rfl | (refine okrI rfl rfl rfl rfl ?_ ?_ <;> (first | omega | (simp only [HS, FRS, CCS, am_R, fl91, fl87] at *; omega))) | (refine okaI rfl rfl rfl rfl ?_ ?_ <;> (first | omega | (simp only [HS, FRS, CCS, am_R, fl91, fl87] at *; omega))) | (first | omega | (simp only [HS, FRS, CCS, am_R, fl91, fl87] at *; omega)) | (simp only [HS, FRS, CCS, fl91, fl87])) ⟨rfl, MoQ_f rfl hF5 hA3 j3⟩
            · simp only [HS, fz]
              decide
          | inr y3 =>
            rw [hq2] at j3
            obtain ⟨j4, j5, j6, j7, j8⟩ := j3
            have ey : y3 = y2 ∧ y2.2.2.1 < fi 54 126 := by
              unfold qNum at hq2
              split at hq2
              · split at hq2
                · next h1 h2 =>
                  cases hq2
                  exact ⟨rfl, h2⟩
                · cases hq2
              · cases hq2
            obtain ⟨rfl, hlt⟩ := ey
            rw [pb_r]
            have e144 : a5 144 m = s := by rw [qb 144 (by omega)]; exact hs.1
            refine am_W.br rfl rfl ?_ (fun c5 => absurd c5 ?_) (fun c5 => ?_)
            · simp only [HS, FRS, CCS, am_R, j4]
              exact (by and_intros <;> first | trivial | exact okI rfl rfl rfl | (refine okrI rfl rfl rfl rfl ?_ ?_ <;> (first | omega | (simp only [HS, FRS, CCS, am_R, fl91, fl87] at *; omega))) | (refine okaI rfl rfl rfl rfl ?_ ?_ <;> (first | omega | (simp only [HS, FRS, CCS, am_R, fl91, fl87] at *; omega))) | (first | omega | (simp only [HS, FRS, CCS, am_R, fl91, fl87] at *; omega)) | (simp only [HS, FRS, CCS, fl91, fl87]))
            · simp only [HS, j4]
              decide
            have hsR := hs.2
            refine am_W.br rfl rfl (by and_intros <;> first | trivial | exact okI rfl rfl rfl | (refine okrI rfl rfl rfl rfl ?_ ?_ <;> (first | omega | (simp only [HS, FRS, CCS, am_R, fl91, fl87] at *; omega))) | (refine okaI rfl rfl rfl rfl ?_ ?_ <;> (first | omega | (simp only [HS, FRS, CCS, am_R, fl91, fl87] at *; omega))) | (first | omega | (simp only [HS, FRS, CCS, am_R, fl91, fl87] at *; omega)) | (simp only [HS, FRS, CCS, fl91, fl87])) (fun c6 => ?_) (fun c6 => ?_)
            · simp only [HS, FRS, fl91, fl87] at c6
              rw [if_neg (by omega)]
              refine am_W.br rfl rfl ?_ (fun c7 => ?_) (fun c7 => absurd ?_ c7)
              · simp only [HS, FRS, CCS, am_R, j4]
                exact (by and_intros <;> first | trivial | exact okI rfl rfl rfl | (refine okrI rfl rfl rfl rfl ?_ ?_ <;> (first | omega | (simp only [HS, FRS, CCS, am_R, fl91, fl87] at *; omega))) | (refine okaI rfl rfl rfl rfl ?_ ?_ <;> (first | omega | (simp only [HS, FRS, CCS, am_R, fl91, fl87] at *; omega))) | (first | omega | (simp only [HS, FRS, CCS, am_R, fl91, fl87] at *; omega)) | (simp only [HS, FRS, CCS, fl91, fl87]))
              · -- the columns of the other source
                have a127 : a5 127 = ai 127 := hA3.1 127 (by omega)
                have hco : co (DM fi ai) y3.2.2.1 = a5 127 s2 := by
                  rw [a127, j6]
                  exact if_neg (by show ¬ (y3.2.2.1 < 0 ∨ fi 54 126 ≤ y3.2.2.1); omega)
                have hcr := co_in y3.2.2.1 hI
                have h188F : ∀ (R : Int ⊕ (PT × JT × Tk)) (f6 : Nat → Nat → Int) (a6 : Nat → Int → Int) (e : Int), FM fi f6 → FO m ai a6 → FL f6 e → R = .inl e → am_W (am_ev am_prog (d + 4)) T_Mo_object (fun w h' => w = none ∧ MoQ L B1 B2 aj fi (FO m ai) R (KOb m t ai) h') (188, [some (.inr (.inr 126)), some (.inl m), some (.inl k), some (.inl (3 * m + 2)), some (.inl (f2 89 126)), some (.inl c), some (.inl (f4 89 126)), some (.inl s2)], [], HH L B1 B2 f6 a6 aj) := by
                  intro R f6 a6 e x1 x2 x3 x4
                  refine am_W.cv 10 m_Mo_wantNumber rfl rfl rfl rfl (by and_intros <;> first | trivial | exact okI rfl rfl rfl | (refine okrI rfl rfl rfl rfl ?_ ?_ <;> (first | omega | (simp only [HS, FRS, CCS, am_R, fl91, fl87] at *; omega))) | (refine okaI rfl rfl rfl rfl ?_ ?_ <;> (first | omega | (simp only [HS, FRS, CCS, am_R, fl91, fl87] at *; omega))) | (first | omega | (simp only [HS, FRS, CCS, am_R, fl91, fl87] at *; omega)) | (simp only [HS, FRS, CCS, fl91, fl87])) (c_mwantNumF (d + 3) L B1 B2 f6 a6 aj _ x3.1) ?_
                  rintro r1 h1 ⟨rfl, rfl⟩
                  exact am_W.rt rfl rfl (by and_intros <;> first | trivial | exact okI rfl rfl rfl | (refine okrI rfl rfl rfl rfl ?_ ?_ <;> (first | omega | (simp only [HS, FRS, CCS, am_R, fl91, fl87] at *; omega))) | (refine okaI rfl rfl rfl rfl ?_ ?_ <;> (first | omega | (simp only [HS, FRS, CCS, am_R, fl91, fl87] at *; omega))) | (first | omega | (simp only [HS, FRS, CCS, am_R, fl91, fl87] at *; omega)) | (simp only [HS, FRS, CCS, fl91, fl87])) ⟨rfl, MoQ_f (f1 := f6) (a1 := am_u2 a6 151 m 0) x4 x1 (x2.tr (FO_u (by omega))) x3⟩
                have h169F : ∀ (R : Int ⊕ (PT × JT × Tk)) (f6 : Nat → Nat → Int) (a6 : Nat → Int → Int) (e : Int), FM fi f6 → FO m ai a6 → FL f6 e → R = .inl e → am_W (am_ev am_prog (d + 4)) T_Mo_object (fun w h' => w = none ∧ MoQ L B1 B2 aj fi (FO m ai) R (KOb m t ai) h') (169, [some (.inr (.inr 126)), some (.inl m), some (.inl k), some (.inl (3 * m + 2)), some (.inl (f2 89 126)), some (.inl c), some (.inl (f4 89 126)), some (.inl s2)], [], HH L B1 B2 f6 a6 aj) := by
                  intro R f6 a6 e x1 x2 x3 x4
                  refine am_W.cv 10 m_Mo_wantNumber rfl rfl rfl rfl (by and_intros <;> first | trivial | exact okI rfl rfl rfl | (refine okrI rfl rfl rfl rfl ?_ ?_ <;> (first | omega | (simp only [HS, FRS, CCS, am_R, fl91, fl87] at *; omega))) | (refine okaI rfl rfl rfl rfl ?_ ?_ <;> (first | omega | (simp only [HS, FRS, CCS, am_R, fl91, fl87] at *; omega))) | (first | omega | (simp only [HS, FRS, CCS, am_R, fl91, fl87] at *; omega)) | (simp only [HS, FRS, CCS, fl91, fl87])) (c_mwantNumF (d + 3) L B1 B2 f6 (am_u2 a6 149 m s2) aj k x3.1) ?_
                  rintro r1 h1 ⟨rfl, rfl⟩
                  exact am_W.gp 188 rfl (by and_intros <;> first | trivial | exact okI rfl rfl rfl | (refine okrI rfl rfl rfl rfl ?_ ?_ <;> (first | omega | (simp only [HS, FRS, CCS, am_R, fl91, fl87] at *; omega))) | (refine okaI rfl rfl rfl rfl ?_ ?_ <;> (first | omega | (simp only [HS, FRS, CCS, am_R, fl91, fl87] at *; omega))) | (first | omega | (simp only [HS, FRS, CCS, am_R, fl91, fl87] at *; omega)) | (simp only [HS, FRS, CCS, fl91, fl87])) (h188F R f6 (am_u2 (am_u2 a6 149 m s2) 150 m 0) e x1 ((x2.tr (FO_u (by omega))).tr (FO_u (by omega))) x3 x4)
                have h164F : ∀ (R : Int ⊕ (PT × JT × Tk)) (f6 : Nat → Nat → Int) (a6 : Nat → Int → Int) (e : Int), FM fi f6 → FO m ai a6 → FL f6 e → R = .inl e → am_W (am_ev am_prog (d + 4)) T_Mo_object (fun w h' => w = none ∧ MoQ L B1 B2 aj fi (FO m ai) R (KOb m t ai) h') (164, [some (.inr (.inr 126)), some (.inl m), some (.inl k), some (.inl (3 * m + 2)), some (.inl (f2 89 126)), some (.inl c), some (.inl (f4 89 126)), some (.inl s2)], [], HH L B1 B2 f6 a6 aj) := by
                  intro R f6 a6 e x1 x2 x3 x4
                  refine am_W.cv 10 m_Mo_wantWord rfl rfl rfl rfl (by and_intros <;> first | trivial | exact okI rfl rfl rfl | (refine okrI rfl rfl rfl rfl ?_ ?_ <;> (first | omega | (simp only [HS, FRS, CCS, am_R, fl91, fl87] at *; omega))) | (refine okaI rfl rfl rfl rfl ?_ ?_ <;> (first | omega | (simp only [HS, FRS, CCS, am_R, fl91, fl87] at *; omega))) | (first | omega | (simp only [HS, FRS, CCS, am_R, fl91, fl87] at *; omega)) | (simp only [HS, FRS, CCS, fl91, fl87])) (c_mwantWordF (d + 3) L B1 B2 f6 a6 aj 4 x3.1) ?_
                  rintro r1 h1 ⟨rfl, rfl⟩
                  exact h169F R f6 a6 e x1 x2 x3 x4
                have hs24 : 0 ≤ s2 ∧ s2 < 4 := by omega
                refine am_W.br rfl rfl (by and_intros <;> first | trivial | exact okI rfl rfl rfl | (refine okrI rfl rfl rfl rfl ?_ ?_ <;> (first | omega | (simp only [HS, FRS, CCS, am_R, fl91, fl87] at *; omega))) | (refine okaI rfl rfl rfl rfl ?_ ?_ <;> (first | omega | (simp only [HS, FRS, CCS, am_R, fl91, fl87] at *; omega))) | (first | omega | (simp only [HS, FRS, CCS, am_R, fl91, fl87] at *; omega)) | (simp only [HS, FRS, CCS, fl91, fl87])) (fun c8 => ?_) (fun c8 => ?_)
                · simp only [HS, FRS, fl91, fl87] at c8
                  rw [if_neg (by omega)]
                  obtain ⟨v1, v2, v3, v4⟩ := id j8
                  have vR : (f5 87 126 = 1 ∧ f5 88 126 = 4) ↔ (lx t y3.2.2.2 0).2.1 = 25209 := v3.2.2.2.2.2.2.2.2.2.2.2.2.2.2.2.1
                  refine am_W.cv 10 m_Mo_wantWord rfl rfl rfl rfl (by and_intros <;> first | trivial | exact okI rfl rfl rfl | (refine okrI rfl rfl rfl rfl ?_ ?_ <;> (first | omega | (simp only [HS, FRS, CCS, am_R, fl91, fl87] at *; omega))) | (refine okaI rfl rfl rfl rfl ?_ ?_ <;> (first | omega | (simp only [HS, FRS, CCS, am_R, fl91, fl87] at *; omega))) | (first | omega | (simp only [HS, FRS, CCS, am_R, fl91, fl87] at *; omega)) | (simp only [HS, FRS, CCS, fl91, fl87])) (c_mwantWord (d + 1) L B1 B2 f5 a5 aj 4 25209 _ t (by and_intros <;> first | trivial | exact okI rfl rfl rfl | (refine okrI rfl rfl rfl rfl ?_ ?_ <;> (first | omega | (simp only [HS, FRS, CCS, am_R, fl91, fl87] at *; omega))) | (refine okaI rfl rfl rfl rfl ?_ ?_ <;> (first | omega | (simp only [HS, FRS, CCS, am_R, fl91, fl87] at *; omega))) | (first | omega | (simp only [HS, FRS, CCS, am_R, fl91, fl87] at *; omega)) | (simp only [HS, FRS, CCS, fl91, fl87])) j4 j5 j8 (by rw [h131 hA3, hF5 60 126 (by omega)]; exact et) vR) ?_
                  rintro r1 h1 ⟨rfl, f6, a6, rfl, x1, rfl, x3⟩
                  have hF6 : FM fi f6 := hF5.tr x1
                  rw [pIs_q]
                  cases hq6 : qIs 25209 (lx t y3.2.2.2 0) with
                  | inl e =>
                    rw [hq6] at x3
                    exact h169F _ f6 a6 e hF6 hA3 x3 rfl
                  | inr z6 =>
                    rw [hq6] at x3
                    obtain ⟨x4, x5, x6⟩ := x3
                    rw [pb_r]
                    have hA6 : FO m ai (am_u2 a6 149 m s2) := hA3.tr (FO_u (by omega))
                    refine am_W.cv 10 m_Mo_wantNumber rfl rfl rfl rfl (by and_intros <;> first | trivial | exact okI rfl rfl rfl | (refine okrI rfl rfl rfl rfl ?_ ?_ <;> (first | omega | (simp only [HS, FRS, CCS, am_R, fl91, fl87] at *; omega))) | (refine okaI rfl rfl rfl rfl ?_ ?_ <;> (first | omega | (simp only [HS, FRS, CCS, am_R, fl91, fl87] at *; omega))) | (first | omega | (simp only [HS, FRS, CCS, am_R, fl91, fl87] at *; omega)) | (simp only [HS, FRS, CCS, fl91, fl87])) (c_mwantNum (d + 1) L B1 B2 f6 (am_u2 a6 149 m s2) aj k _ t ⟨by omega, by omega⟩ x4 (LM_a (am_u2_131 (by decide)) x5) x6 (by rw [h131 hA6, hF6 60 126 (by omega)]; exact et)) ?_
                    rintro r1 h1 ⟨v7, rfl, f7, a7, rfl, w1, rfl, w3⟩
                    have hF7 : FM fi f7 := hF6.tr w1
                    have hA7 : FO m ai (am_u2 (am_u2 a6 149 m s2) 150 m v7) := hA6.tr (FO_u (by omega))
                    rw [pNum_q]
                    refine am_W.gp 188 rfl (by and_intros <;> first | trivial | exact okI rfl rfl rfl | (refine okrI rfl rfl rfl rfl ?_ ?_ <;> (first | omega | (simp only [HS, FRS, CCS, am_R, fl91, fl87] at *; omega))) | (refine okaI rfl rfl rfl rfl ?_ ?_ <;> (first | omega | (simp only [HS, FRS, CCS, am_R, fl91, fl87] at *; omega))) | (first | omega | (simp only [HS, FRS, CCS, am_R, fl91, fl87] at *; omega)) | (simp only [HS, FRS, CCS, fl91, fl87])) ?_
                    simp only [HS, FRS, fl91, fl87]
                    cases hq7 : qNum k (lx t z6.2.2.2 0) with
                    | inl e =>
                      rw [hq7] at w3
                      exact h188F _ f7 _ e hF7 hA7 w3 rfl
                    | inr z7 =>
                      rw [hq7] at w3
                      obtain ⟨w4, w5, w6, w7, w8⟩ := w3
                      rw [pb_r]
                      have hL7 : LM f7 (am_u2 (am_u2 a6 149 m s2) 150 m v7) := LM_a (am_u2_131 (by decide)) w5
                      have e127 : am_u2 (am_u2 a6 149 m s2) 150 m v7 127 s2 = co (DM fi ai) y3.2.2.1 := by rw [hco, u2n (by decide), u2n (by decide)]
                      have hsd : ∀ b, b ≠ 149 → b ≠ 150 → am_u2 (am_u2 a6 149 m s2) 150 m v7 b = a6 b := fun b h1 h2 => funext fun j => by rw [u2n h2, u2n h1]
                      have e149 : am_u2 (am_u2 a6 149 m s2) 150 m v7 149 m = y3.2.2.1 := by rw [u2n (by decide), u2s]; exact j6
                      have e150 : am_u2 (am_u2 a6 149 m s2) 150 m v7 150 m = z7.2.2.1 := by rw [u2s]; exact w6
                      generalize am_u2 (am_u2 a6 149 m s2) 150 m v7 = a8 at *
                      have ecol : am_ai (HH L B1 B2 f7 a8 aj) (am_fr (HH L B1 B2 f7 a8 aj) 55 126) s2 = co (DM fi ai) y3.2.2.1 := by simp only [HS, FRS]; exact e127
                      refine am_W.cv 10 m_Mo_wantNumber rfl rfl rfl rfl (by and_intros <;> first | trivial | exact okI rfl rfl rfl | (refine okrI rfl rfl rfl rfl ?_ ?_ <;> (first | omega | (simp only [HS, FRS, CCS, am_R, fl91, fl87] at *; omega))) | (refine okaI rfl rfl rfl rfl ?_ ?_ <;> (first | omega | (simp only [HS, FRS, CCS, am_R, fl91, fl87] at *; omega))) | (first | omega | (simp only [HS, FRS, CCS, am_R, fl91, fl87] at *; omega)) | (simp only [HS, FRS, CCS, fl91, fl87])) (by rw [ecol]; exact c_mwantNum (d + 1) L B1 B2 f7 a8 aj (co (DM fi ai) y3.2.2.1) _ t ⟨by omega, by omega⟩ w4 hL7 w8 (by rw [h131 hA7, hF7 60 126 (by omega)]; exact et)) ?_
                      rintro r1 h1 ⟨v9, rfl, f9, a9, rfl, u1, rfl, u3⟩
                      rw [pNum_q]
                      have hA9 : FO m ai (am_u2 a9 151 m v9) := hA7.tr (FO_u (by omega))
                      cases hq9 : qNum (co (DM fi ai) y3.2.2.1) (lx t z7.2.2.2 0) with
                      | inl e =>
                        rw [hq9] at u3
                        exact am_W.rt rfl rfl (by and_intros <;> first | trivial | exact okI rfl rfl rfl | (refine okrI rfl rfl rfl rfl ?_ ?_ <;> (first | omega | (simp only [HS, FRS, CCS, am_R, fl91, fl87] at *; omega))) | (refine okaI rfl rfl rfl rfl ?_ ?_ <;> (first | omega | (simp only [HS, FRS, CCS, am_R, fl91, fl87] at *; omega))) | (first | omega | (simp only [HS, FRS, CCS, am_R, fl91, fl87] at *; omega)) | (simp only [HS, FRS, CCS, fl91, fl87])) ⟨rfl, MoQ_f (f1 := f9) (a1 := am_u2 a9 151 m v9) rfl (hF7.tr u1) hA9 u3⟩
                      | inr z9 =>
                        rw [hq9] at u3
                        obtain ⟨u4, u5, u6, u7, u8⟩ := u3
                        refine am_W.rt rfl rfl (by and_intros <;> first | trivial | exact okI rfl rfl rfl | (refine okrI rfl rfl rfl rfl ?_ ?_ <;> (first | omega | (simp only [HS, FRS, CCS, am_R, fl91, fl87] at *; omega))) | (refine okaI rfl rfl rfl rfl ?_ ?_ <;> (first | omega | (simp only [HS, FRS, CCS, am_R, fl91, fl87] at *; omega))) | (first | omega | (simp only [HS, FRS, CCS, am_R, fl91, fl87] at *; omega)) | (simp only [HS, FRS, CCS, fl91, fl87])) ⟨rfl, MoQ_y (f1 := f9) (a1 := am_u2 a9 151 m v9) (a := ((2, y.2.2.1, []), (y3.2.2.1, z7.2.2.1, z9.2.2.1), lx t z9.2.2.2 0)) rfl (hF7.tr u1) hA9 u4 (LM_a (am_u2_131 (by decide)) u5) ⟨⟨?_, ?_, fun q => absurd q (show ¬ (2 : Int) = 0 by decide)⟩, ?_, fun _ => ⟨?_, ?_⟩, u8, ?_, ?_, ?_, ?_⟩⟩
                        · rw [u2n (by decide), hsd 145 (by decide) (by decide)]
                          exact q145
                        · intro _
                          rw [u2n (by decide), hsd 146 (by decide) (by decide)]
                          exact q146
                        · rw [u2n (by decide)]
                          exact e149
                        · rw [u2n (by decide)]
                          exact e150
                        · rw [u2s]
                          exact u6
                        · rw [show am_u2 a9 151 m v9 144 = a9 144 from funext fun j => u2n (by decide), hsd 144 (by decide) (by decide)]
                          exact qb 144 (by omega)
                        · intro b hb
                          rw [show am_u2 a9 151 m v9 b = a9 b from funext fun j => u2n (by omega), hsd b (by omega) (by omega)]
                          exact qb b (by omega)
                        · intro b k' p q
                          rw [u2n (by omega), hsd b (by omega) (by omega)]
                          exact qc b k' p q
                        · intro k' p
                          rw [u2n (by decide), hsd 148 (by decide) (by decide)]
                          exact qd k'
                · simp only [HS, FRS, fl91, fl87] at c8
                  rw [if_pos (by omega)]
                  refine am_W.cv 10 m_Mo_fail rfl rfl rfl rfl (by and_intros <;> first | trivial | exact okI rfl rfl rfl | (refine okrI rfl rfl rfl rfl ?_ ?_ <;> (first | omega | (simp only [HS, FRS, CCS, am_R, fl91, fl87] at *; omega))) | (refine okaI rfl rfl rfl rfl ?_ ?_ <;> (first | omega | (simp only [HS, FRS, CCS, am_R, fl91, fl87] at *; omega))) | (first | omega | (simp only [HS, FRS, CCS, am_R, fl91, fl87] at *; omega)) | (simp only [HS, FRS, CCS, fl91, fl87])) (c_mfail (d + 3) L B1 B2 f5 a5 aj 1 (f2 89 126) j4 (Or.inr rfl) ⟨by omega, by omega⟩) ?_
                  rintro r1 h1 ⟨rfl, f6, rfl, x1, x2, x3⟩
                  rw [if_pos rfl, e89] at x2
                  exact h164F _ f6 a5 _ (hF5.tr x1) hA3 x2 rfl
              · simp only [HS, j4]
            · simp only [HS, FRS, fl91, fl87] at c6
              rw [if_pos (by omega)]
              refine am_W.cv 10 m_Mo_fail rfl rfl rfl rfl (by and_intros <;> first | trivial | exact okI rfl rfl rfl | (refine okrI rfl rfl rfl rfl ?_ ?_ <;> (first | omega | (simp only [HS, FRS, CCS, am_R, fl91, fl87] at *; omega))) | (refine okaI rfl rfl rfl rfl ?_ ?_ <;> (first | omega | (simp only [HS, FRS, CCS, am_R, fl91, fl87] at *; omega))) | (first | omega | (simp only [HS, FRS, CCS, am_R, fl91, fl87] at *; omega)) | (simp only [HS, FRS, CCS, fl91, fl87])) (c_mfail (d + 3) L B1 B2 f5 a5 aj 1 (f4 89 126) j4 (Or.inr rfl) ⟨by omega, by omega⟩) ?_
              rintro r1 h1 ⟨rfl, f6, rfl, x1, x2, x3⟩
              rw [if_pos rfl, i89] at x2
              have fz := x2.1
              refine am_W.br rfl rfl ?_ (fun c7 => absurd c7 ?_) (fun c7 => ?_)
              · simp only [HS, FRS, CCS, am_R, fz]
                exact (by and_intros <;> first | trivial | exact okI rfl rfl rfl | (refine okrI rfl rfl rfl rfl ?_ ?_ <;> (first | omega | (simp only [HS, FRS, CCS, am_R, fl91, fl87] at *; omega))) | (refine okaI rfl rfl rfl rfl ?_ ?_ <;> (first | omega | (simp only [HS, FRS, CCS, am_R, fl91, fl87] at *; omega))) | (first | omega | (simp only [HS, FRS, CCS, am_R, fl91, fl87] at *; omega)) | (simp only [HS, FRS, CCS, fl91, fl87]))
              · simp only [HS, fz]
                decide
              · exact am_W.rt rfl rfl (by and_intros <;> first | trivial | exact okI rfl rfl rfl | (refine okrI rfl rfl rfl rfl ?_ ?_ <;> (first | omega | (simp only [HS, FRS, CCS, am_R, fl91, fl87] at *; omega))) | (refine okaI rfl rfl rfl rfl ?_ ?_ <;> (first | omega | (simp only [HS, FRS, CCS, am_R, fl91, fl87] at *; omega))) | (first | omega | (simp only [HS, FRS, CCS, am_R, fl91, fl87] at *; omega)) | (simp only [HS, FRS, CCS, fl91, fl87])) ⟨rfl, MoQ_f rfl (hF5.tr x1) hA3 x2⟩
        · rw [if_neg hz, show (if f3 91 126 = 0 ∧ f3 87 126 = 1 ∧ f3 88 126 = 3 then (1 : Int) else 0) = 0 from if_neg (fun w => hz (zR.mp w.2))]
          refine am_W.br rfl rfl (by and_intros <;> first | trivial | exact okI rfl rfl rfl | (refine okrI rfl rfl rfl rfl ?_ ?_ <;> (first | omega | (simp only [HS, FRS, CCS, am_R, fl91, fl87] at *; omega))) | (refine okaI rfl rfl rfl rfl ?_ ?_ <;> (first | omega | (simp only [HS, FRS, CCS, am_R, fl91, fl87] at *; omega))) | (first | omega | (simp only [HS, FRS, CCS, am_R, fl91, fl87] at *; omega)) | (simp only [HS, FRS, CCS, fl91, fl87])) (fun c4 => absurd rfl c4) (fun c4 => ?_)
          refine am_W.br rfl rfl (by and_intros <;> first | trivial | exact okI rfl rfl rfl | (refine okrI rfl rfl rfl rfl ?_ ?_ <;> (first | omega | (simp only [HS, FRS, CCS, am_R, fl91, fl87] at *; omega))) | (refine okaI rfl rfl rfl rfl ?_ ?_ <;> (first | omega | (simp only [HS, FRS, CCS, am_R, fl91, fl87] at *; omega))) | (first | omega | (simp only [HS, FRS, CCS, am_R, fl91, fl87] at *; omega)) | (simp only [HS, FRS, CCS, fl91, fl87])) (fun c5 => ?_) (fun c5 => ?_)
          · rw [if_pos (by omega)]
            exact am_W.rt rfl rfl (by and_intros <;> first | trivial | exact okI rfl rfl rfl | (refine okrI rfl rfl rfl rfl ?_ ?_ <;> (first | omega | (simp only [HS, FRS, CCS, am_R, fl91, fl87] at *; omega))) | (refine okaI rfl rfl rfl rfl ?_ ?_ <;> (first | omega | (simp only [HS, FRS, CCS, am_R, fl91, fl87] at *; omega))) | (first | omega | (simp only [HS, FRS, CCS, am_R, fl91, fl87] at *; omega)) | (simp only [HS, FRS, CCS, fl91, fl87])) ⟨rfl, MoQ_y (a := ((2, y.2.2.1, []), (-1, 0, 0), z)) rfl hF3 hA3 k4 k5' ⟨⟨q145, fun _ => q146, fun q => absurd q (show ¬ (2 : Int) = 0 by decide)⟩, q149, fun q => absurd rfl q, k8, qb 144 (by omega), fun b hb => qb b (by omega), qc, fun k _ => qd k⟩⟩
          · rw [if_neg (by omega)]
            refine am_W.cv 10 m_Mo_fail rfl rfl rfl rfl (by and_intros <;> first | trivial | exact okI rfl rfl rfl | (refine okrI rfl rfl rfl rfl ?_ ?_ <;> (first | omega | (simp only [HS, FRS, CCS, am_R, fl91, fl87] at *; omega))) | (refine okaI rfl rfl rfl rfl ?_ ?_ <;> (first | omega | (simp only [HS, FRS, CCS, am_R, fl91, fl87] at *; omega))) | (first | omega | (simp only [HS, FRS, CCS, am_R, fl91, fl87] at *; omega)) | (simp only [HS, FRS, CCS, fl91, fl87])) (c_mfail (d + 3) L B1 B2 f3 a4 aj 1 (f2 89 126) k4 (Or.inr rfl) ⟨by omega, by omega⟩) ?_
            rintro r1 h1 ⟨rfl, f4, rfl, j1, j2, j3⟩
            rw [if_pos rfl, e89] at j2
            exact am_W.rt rfl rfl (by and_intros <;> first | trivial | exact okI rfl rfl rfl | (refine okrI rfl rfl rfl rfl ?_ ?_ <;> (first | omega | (simp only [HS, FRS, CCS, am_R, fl91, fl87] at *; omega))) | (refine okaI rfl rfl rfl rfl ?_ ?_ <;> (first | omega | (simp only [HS, FRS, CCS, am_R, fl91, fl87] at *; omega))) | (first | omega | (simp only [HS, FRS, CCS, am_R, fl91, fl87] at *; omega)) | (simp only [HS, FRS, CCS, fl91, fl87])) ⟨rfl, MoQ_f rfl (hF3.tr j1) hA3 j2⟩
      · simp only [HS, k4]
  · rw [if_neg hy, if_neg (fun z => hy (hR36.mp z.2))]
    refine am_W.br rfl rfl (by and_intros <;> first | trivial | exact okI rfl rfl rfl | (refine okrI rfl rfl rfl rfl ?_ ?_ <;> (first | omega | (simp only [HS, FRS, CCS, am_R, fl91, fl87] at *; omega))) | (refine okaI rfl rfl rfl rfl ?_ ?_ <;> (first | omega | (simp only [HS, FRS, CCS, am_R, fl91, fl87] at *; omega))) | (first | omega | (simp only [HS, FRS, CCS, am_R, fl91, fl87] at *; omega)) | (simp only [HS, FRS, CCS, fl91, fl87])) (fun c1 => absurd rfl c1) (fun c1 => ?_)
    have hn := c_mreadName d L B1 B2 fi (am_u2 ai 149 m (-1)) aj (3 * m + 2) k 1 σ t ⟨by omega, by omega⟩ hk (Or.inr rfl) h91 hL1 hT et1
    rw [pNm, if_pos rfl] at hn
    refine am_W.cv 10 m_Mo_readName rfl rfl rfl rfl (by and_intros <;> first | trivial | exact okI rfl rfl rfl | (refine okrI rfl rfl rfl rfl ?_ ?_ <;> (first | omega | (simp only [HS, FRS, CCS, am_R, fl91, fl87] at *; omega))) | (refine okaI rfl rfl rfl rfl ?_ ?_ <;> (first | omega | (simp only [HS, FRS, CCS, am_R, fl91, fl87] at *; omega))) | (first | omega | (simp only [HS, FRS, CCS, am_R, fl91, fl87] at *; omega)) | (simp only [HS, FRS, CCS, fl91, fl87])) hn ?_
    rintro r1 h1 ⟨rfl, f2, a2, rfl, g1, g2, g3⟩
    have hA2 := hA1.tr (FO_n g2 ⟨by omega, by omega⟩)
    cases hpn : pName t k σ with
    | inl e =>
      rw [hpn] at g3
      exact am_W.rt rfl rfl (by and_intros <;> first | trivial | exact okI rfl rfl rfl | (refine okrI rfl rfl rfl rfl ?_ ?_ <;> (first | omega | (simp only [HS, FRS, CCS, am_R, fl91, fl87] at *; omega))) | (refine okaI rfl rfl rfl rfl ?_ ?_ <;> (first | omega | (simp only [HS, FRS, CCS, am_R, fl91, fl87] at *; omega))) | (first | omega | (simp only [HS, FRS, CCS, am_R, fl91, fl87] at *; omega)) | (simp only [HS, FRS, CCS, fl91, fl87])) ⟨rfl, MoQ_f rfl g1 hA2 g3⟩
    | inr y =>
      rw [hpn] at g3
      obtain ⟨j1, j2, j3, j4⟩ := g3
      refine am_W.rt rfl rfl (by and_intros <;> first | trivial | exact okI rfl rfl rfl | (refine okrI rfl rfl rfl rfl ?_ ?_ <;> (first | omega | (simp only [HS, FRS, CCS, am_R, fl91, fl87] at *; omega))) | (refine okaI rfl rfl rfl rfl ?_ ?_ <;> (first | omega | (simp only [HS, FRS, CCS, am_R, fl91, fl87] at *; omega))) | (first | omega | (simp only [HS, FRS, CCS, am_R, fl91, fl87] at *; omega)) | (simp only [HS, FRS, CCS, fl91, fl87])) ⟨rfl, MoQ_y (a := (y.1, (-1, 0, 0), lx t y.2 0)) rfl g1 hA2 j1 j2 ⟨j3, ?_, fun q => absurd rfl q, j4, ?_, ?_, ?_, ?_⟩⟩
      · rw [g2.1 149 (by decide), u2s]
      · rw [g2.1 144 (by decide)]
        exact funext fun j => u2n (by decide)
      · intro b hb
        rw [g2.1 b (by omega)]
        exact funext fun j => u2n (by omega)
      · intro b k' p q
        rw [g2.2.1 b k' p (by omega), u2n (by omega)]
      · intro k' p
        rw [g2.2.2 k' p, u2n (by decide)]
