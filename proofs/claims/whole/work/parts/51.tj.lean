-- join and object of the class's reader
theorem Fr0a {fi fi' : Nat → Nat → Int} {ai ai' : Nat → Int → Int} (h : Fr 0 0 fi fi' ai ai') : ai' = ai := by
  funext c
  exact h.2.1 c (by omega)
def KJ (r : Nat) (fi : Nat → Nat → Int) (ai : Nat → Int → Int) : (Nat → Nat → Int) → (Nat → Int → Int) → JT × Tk → Prop := fun fi' ai' x => fi' 43 r = x.1.1 ∧ fi' 44 r = x.1.2.1 ∧ fi' 45 r = x.1.2.2 ∧ TC fi' x.2 ∧ ai' r = ai r ∧ (∀ j, j ≠ 43 → j ≠ 44 → j ≠ 45 → fi' j r = fi j r) ∧ 0 ≤ x.1.1
set_option maxHeartbeats 400000 in
set_option maxRecDepth 100000 in
theorem c_takeJoin (d L B1 B2 : Nat) (fi : Nat → Nat → Int) (ai aj : Nat → Int → Int) (r : Nat) (s m c a b : Int) (hp : MapAt L B1 B2 r) (hm : am_R m) (hL : LI fi ai) (hI : DI (DD fi ai)) (hs : fi 39 r = s ∧ am_R s) (hc : fi 51 (r + 5) = c ∧ am_R c) (hb : fi 15 23 = b) : am_M am_prog (d + 4) m_Re_takeJoin [.inr (.inr 22), .inr (.inr r), .inr (.inr 17), .inl m, .inl a] (HH L B1 B2 fi ai aj) (RQ L B1 B2 aj r (r + 1) fi ai (pJoin (tx (fi 14 23) (ai 24)) (DD fi ai) s m c a b) (KJ r fi ai)) := by
  obtain ⟨p0, p1, hC, hf3, hf4, hf5, hpa, hpb, hpc⟩ := id hp
  have hCp : CC L (r + 5) = (9, 0) := hpc.2.2.1
  have hC1 : True := trivial
  have hn := hI.1
  generalize et : tx (fi 14 23) (ai 24) = t
  refine am_W.of rfl rfl ?_
  refine am_W.cv 2 m_Re_nextIsNumberBelow rfl rfl rfl rfl (by and_intros <;> first | trivial | exact okI rfl rfl rfl | (refine okrI rfl rfl rfl rfl ?_ ?_ <;> (first | omega | (simp only [HS, FRS, CCS, am_R, hC, hf5, hCp, hC1] at *; omega))) | (refine okaI rfl rfl rfl rfl ?_ ?_ <;> (first | omega | (simp only [HS, FRS, CCS, am_R, hC, hf5, hCp, hC1] at *; omega))) | (first | omega | (simp only [HS, FRS, CCS, am_R, hC, hf5, hCp, hC1] at *; omega)) | (simp only [HS, FRS, CCS, hC, hf5, hCp, hC1])) (c_numT d L B1 B2 fi ai aj t b (fi 10 17) (by and_intros <;> first | trivial | exact okI rfl rfl rfl | (refine okrI rfl rfl rfl rfl ?_ ?_ <;> (first | omega | (simp only [HS, FRS, CCS, am_R, hC, hf5, hCp, hC1] at *; omega))) | (refine okaI rfl rfl rfl rfl ?_ ?_ <;> (first | omega | (simp only [HS, FRS, CCS, am_R, hC, hf5, hCp, hC1] at *; omega))) | (first | omega | (simp only [HS, FRS, CCS, am_R, hC, hf5, hCp, hC1] at *; omega)) | (simp only [HS, FRS, CCS, hC, hf5, hCp, hC1])) hL et hb) ?_
  rintro r1 h1 ⟨f2, a2, rfl, hF2, hL2, hm2⟩
  unfold pJoin
  have ea := Fr0a hF2
  subst ea
  have hD2 := hF2.D (Or.inl rfl)
  show am_W _ _ (RQ L B1 B2 aj r (r + 1) fi a2 (pb (pNum t (fi 10 17) b) _) (KJ r fi a2)) _
  cases hpn : pNum t (fi 10 17) b with
  | inl e =>
    rw [hpn] at hm2
    obtain ⟨rfl, he⟩ := hm2
    refine am_W.br rfl rfl (by and_intros <;> first | trivial | exact okI rfl rfl rfl | (refine okrI rfl rfl rfl rfl ?_ ?_ <;> (first | omega | (simp only [HS, FRS, CCS, am_R, hC, hf5, hCp, hC1] at *; omega))) | (refine okaI rfl rfl rfl rfl ?_ ?_ <;> (first | omega | (simp only [HS, FRS, CCS, am_R, hC, hf5, hCp, hC1] at *; omega))) | (first | omega | (simp only [HS, FRS, CCS, am_R, hC, hf5, hCp, hC1] at *; omega)) | (simp only [HS, FRS, CCS, hC, hf5, hCp, hC1])) (fun c3 => absurd rfl c3) (fun c3 => ?_)
    exact am_W.rt rfl rfl (by and_intros <;> first | trivial | exact okI rfl rfl rfl | (refine okrI rfl rfl rfl rfl ?_ ?_ <;> (first | omega | (simp only [HS, FRS, CCS, am_R, hC, hf5, hCp, hC1] at *; omega))) | (refine okaI rfl rfl rfl rfl ?_ ?_ <;> (first | omega | (simp only [HS, FRS, CCS, am_R, hC, hf5, hCp, hC1] at *; omega))) | (first | omega | (simp only [HS, FRS, CCS, am_R, hC, hf5, hCp, hC1] at *; omega)) | (simp only [HS, FRS, CCS, hC, hf5, hCp, hC1])) (RQ_e rfl (hF2.mo (Or.inl rfl)) hL2 he)
  | inr y =>
    rw [hpn] at hm2
    obtain ⟨rfl, hT2, m1, m2⟩ := hm2
    rw [pb_r]
    have l2 := hL2.2.2
    have s2 : f2 39 r = s := by rw [hF2.at 39 r p0 (by omega)]; exact hs.1
    have c2 : f2 51 (r + 5) = c := by rw [hF2.at 51 (r + 5) (by omega) (by omega)]; exact hc.1
    refine am_W.br rfl rfl (by and_intros <;> first | trivial | exact okI rfl rfl rfl | (refine okrI rfl rfl rfl rfl ?_ ?_ <;> (first | omega | (simp only [HS, FRS, CCS, am_R, hC, hf5, hCp, hC1] at *; omega))) | (refine okaI rfl rfl rfl rfl ?_ ?_ <;> (first | omega | (simp only [HS, FRS, CCS, am_R, hC, hf5, hCp, hC1] at *; omega))) | (first | omega | (simp only [HS, FRS, CCS, am_R, hC, hf5, hCp, hC1] at *; omega)) | (simp only [HS, FRS, CCS, hC, hf5, hCp, hC1])) (fun c3 => ?_) (fun c3 => absurd c3 (by decide))
    refine am_W.br rfl rfl (by and_intros <;> first | trivial | exact okI rfl rfl rfl | (refine okrI rfl rfl rfl rfl ?_ ?_ <;> (first | omega | (simp only [HS, FRS, CCS, am_R, hC, hf5, hCp, hC1] at *; omega))) | (refine okaI rfl rfl rfl rfl ?_ ?_ <;> (first | omega | (simp only [HS, FRS, CCS, am_R, hC, hf5, hCp, hC1] at *; omega))) | (first | omega | (simp only [HS, FRS, CCS, am_R, hC, hf5, hCp, hC1] at *; omega)) | (simp only [HS, FRS, CCS, hC, hf5, hCp, hC1])) (fun c4 => ?_) (fun c4 => ?_)
    · simp only [HS, FRS, hC, hf5, hCp, hC1] at c4
      rw [if_neg (by omega)]
      refine am_W.gp 50 rfl (by and_intros <;> first | trivial | exact okI rfl rfl rfl | (refine okrI rfl rfl rfl rfl ?_ ?_ <;> (first | omega | (simp only [HS, FRS, CCS, am_R, hC, hf5, hCp, hC1] at *; omega))) | (refine okaI rfl rfl rfl rfl ?_ ?_ <;> (first | omega | (simp only [HS, FRS, CCS, am_R, hC, hf5, hCp, hC1] at *; omega))) | (first | omega | (simp only [HS, FRS, CCS, am_R, hC, hf5, hCp, hC1] at *; omega)) | (simp only [HS, FRS, CCS, hC, hf5, hCp, hC1])) ?_
      simp only [HS, FRS, hC, hf5, hCp, hC1]
      have k1 : LI (am_u2 f2 43 r (f2 18 23)) a2 := LI_p p0 hL2
      have k2 : Fr r (r + 1) fi (am_u2 f2 43 r (f2 18 23)) a2 a2 := (hF2.mo (Or.inl rfl)).tr (Fr_m p0)
      have k3 : am_u2 f2 43 r (f2 18 23) 43 r = y.2.2.1 := by rw [u2s]; exact m1
      have k4 : am_u2 f2 43 r (f2 18 23) 51 (r + 5) = c := by rw [u2n (by decide)]; exact c2
      have k5 : am_u2 f2 43 r (f2 18 23) 15 23 = y.2.2.2 := by rw [u2a (by omega)]; exact hT2.2.2.2
      have k6 : ∀ j, j ≠ 43 → am_u2 f2 43 r (f2 18 23) j r = fi j r := fun j hj => by rw [u2n hj, hF2.at j r p0 (by omega)]
      generalize am_u2 f2 43 r (f2 18 23) = f3 at *
      have hD3 := k2.D (Or.inr p0)
      have hco := co_in y.2.2.1 hI
      refine am_W.cv 1 m_So_columnsOf rfl rfl rfl rfl (by and_intros <;> first | trivial | exact okI rfl rfl rfl | (refine okrI rfl rfl rfl rfl ?_ ?_ <;> (first | omega | (simp only [HS, FRS, CCS, am_R, hC, hf5, hCp, hC1] at *; omega))) | (refine okaI rfl rfl rfl rfl ?_ ?_ <;> (first | omega | (simp only [HS, FRS, CCS, am_R, hC, hf5, hCp, hC1] at *; omega))) | (first | omega | (simp only [HS, FRS, CCS, am_R, hC, hf5, hCp, hC1] at *; omega)) | (simp only [HS, FRS, CCS, hC, hf5, hCp, hC1])) (by show am_M am_prog (d + 3) m_So_columnsOf [.inr (.inr 17), .inl (f3 43 r)] (HH L B1 B2 f3 a2 aj) _; rw [k3]; exact c_So_columnsOf (d + 2) L B1 B2 f3 a2 aj y.2.2.1 ⟨by omega, by omega⟩ (by rw [hD3]; exact hI)) ?_
      rintro r1 h1 ⟨rfl, rfl⟩
      rw [hD3]
      refine am_W.br rfl rfl (by and_intros <;> first | trivial | exact okI rfl rfl rfl | (refine okrI rfl rfl rfl rfl ?_ ?_ <;> (first | omega | (simp only [HS, FRS, CCS, am_R, hC, hf5, hCp, hC1] at *; omega))) | (refine okaI rfl rfl rfl rfl ?_ ?_ <;> (first | omega | (simp only [HS, FRS, CCS, am_R, hC, hf5, hCp, hC1] at *; omega))) | (first | omega | (simp only [HS, FRS, CCS, am_R, hC, hf5, hCp, hC1] at *; omega)) | (simp only [HS, FRS, CCS, hC, hf5, hCp, hC1])) (fun c5 => ?_) (fun c5 => ?_)
      · simp only [HS, FRS, hC, hf5, hCp, hC1] at c5
        rw [if_neg (by omega)]
        refine am_W.cv 2 m_Re_nextIs rfl rfl rfl rfl (by and_intros <;> first | trivial | exact okI rfl rfl rfl | (refine okrI rfl rfl rfl rfl ?_ ?_ <;> (first | omega | (simp only [HS, FRS, CCS, am_R, hC, hf5, hCp, hC1] at *; omega))) | (refine okaI rfl rfl rfl rfl ?_ ?_ <;> (first | omega | (simp only [HS, FRS, CCS, am_R, hC, hf5, hCp, hC1] at *; omega))) | (first | omega | (simp only [HS, FRS, CCS, am_R, hC, hf5, hCp, hC1] at *; omega)) | (simp only [HS, FRS, CCS, hC, hf5, hCp, hC1])) (c_isT d L B1 B2 f3 a2 aj t y.2.2.2 25209 (by and_intros <;> first | trivial | exact okI rfl rfl rfl | (refine okrI rfl rfl rfl rfl ?_ ?_ <;> (first | omega | (simp only [HS, FRS, CCS, am_R, hC, hf5, hCp, hC1] at *; omega))) | (refine okaI rfl rfl rfl rfl ?_ ?_ <;> (first | omega | (simp only [HS, FRS, CCS, am_R, hC, hf5, hCp, hC1] at *; omega))) | (first | omega | (simp only [HS, FRS, CCS, am_R, hC, hf5, hCp, hC1] at *; omega)) | (simp only [HS, FRS, CCS, hC, hf5, hCp, hC1])) k1 (by rw [k2.LT (Or.inr p0)]; exact et) k5) ?_
        rintro r1 h1 ⟨f4, a4, rfl, hF4, hL4, hm4⟩
        have ea := Fr0a hF4
        subst ea
        cases hpi : pIs t 25209 y.2.2.2 with
        | inl e =>
          rw [hpi] at hm4
          obtain ⟨rfl, he⟩ := hm4
          refine am_W.br rfl rfl (by and_intros <;> first | trivial | exact okI rfl rfl rfl | (refine okrI rfl rfl rfl rfl ?_ ?_ <;> (first | omega | (simp only [HS, FRS, CCS, am_R, hC, hf5, hCp, hC1] at *; omega))) | (refine okaI rfl rfl rfl rfl ?_ ?_ <;> (first | omega | (simp only [HS, FRS, CCS, am_R, hC, hf5, hCp, hC1] at *; omega))) | (first | omega | (simp only [HS, FRS, CCS, am_R, hC, hf5, hCp, hC1] at *; omega)) | (simp only [HS, FRS, CCS, hC, hf5, hCp, hC1])) (fun c3 => ?_) (fun c3 => absurd rfl c3)
          exact am_W.rt rfl rfl (by and_intros <;> first | trivial | exact okI rfl rfl rfl | (refine okrI rfl rfl rfl rfl ?_ ?_ <;> (first | omega | (simp only [HS, FRS, CCS, am_R, hC, hf5, hCp, hC1] at *; omega))) | (refine okaI rfl rfl rfl rfl ?_ ?_ <;> (first | omega | (simp only [HS, FRS, CCS, am_R, hC, hf5, hCp, hC1] at *; omega))) | (first | omega | (simp only [HS, FRS, CCS, am_R, hC, hf5, hCp, hC1] at *; omega)) | (simp only [HS, FRS, CCS, hC, hf5, hCp, hC1])) (RQ_e rfl (k2.tr (hF4.mo (Or.inl rfl))) hL4 he)
        | inr z =>
          rw [hpi] at hm4
          rw [pb_r]
          obtain ⟨rfl, hT4, -⟩ := hm4
          refine am_W.br rfl rfl (by and_intros <;> first | trivial | exact okI rfl rfl rfl | (refine okrI rfl rfl rfl rfl ?_ ?_ <;> (first | omega | (simp only [HS, FRS, CCS, am_R, hC, hf5, hCp, hC1] at *; omega))) | (refine okaI rfl rfl rfl rfl ?_ ?_ <;> (first | omega | (simp only [HS, FRS, CCS, am_R, hC, hf5, hCp, hC1] at *; omega))) | (first | omega | (simp only [HS, FRS, CCS, am_R, hC, hf5, hCp, hC1] at *; omega)) | (simp only [HS, FRS, CCS, hC, hf5, hCp, hC1])) (fun c3 => absurd c3 (by decide)) (fun c3 => ?_)
          have k7 : Fr r (r + 1) fi f4 a4 a4 := k2.tr (hF4.mo (Or.inl rfl))
          refine am_W.cv 2 m_Re_nextIsNumberBelow rfl rfl rfl rfl (by and_intros <;> first | trivial | exact okI rfl rfl rfl | (refine okrI rfl rfl rfl rfl ?_ ?_ <;> (first | omega | (simp only [HS, FRS, CCS, am_R, hC, hf5, hCp, hC1] at *; omega))) | (refine okaI rfl rfl rfl rfl ?_ ?_ <;> (first | omega | (simp only [HS, FRS, CCS, am_R, hC, hf5, hCp, hC1] at *; omega))) | (first | omega | (simp only [HS, FRS, CCS, am_R, hC, hf5, hCp, hC1] at *; omega)) | (simp only [HS, FRS, CCS, hC, hf5, hCp, hC1])) (c_numT d L B1 B2 f4 a4 aj t z.2.2.2 m hm hL4 (by rw [k7.LT (Or.inr p0)]; exact et) hT4.2.2.2) ?_
          rintro r1 h1 ⟨f5, a5, rfl, hF5, hL5, hm5⟩
          have ea := Fr0a hF5
          subst ea
          cases hpu : pNum t m z.2.2.2 with
          | inl e =>
            rw [hpu] at hm5
            obtain ⟨rfl, he⟩ := hm5
            refine am_W.br rfl rfl (by and_intros <;> first | trivial | exact okI rfl rfl rfl | (refine okrI rfl rfl rfl rfl ?_ ?_ <;> (first | omega | (simp only [HS, FRS, CCS, am_R, hC, hf5, hCp, hC1] at *; omega))) | (refine okaI rfl rfl rfl rfl ?_ ?_ <;> (first | omega | (simp only [HS, FRS, CCS, am_R, hC, hf5, hCp, hC1] at *; omega))) | (first | omega | (simp only [HS, FRS, CCS, am_R, hC, hf5, hCp, hC1] at *; omega)) | (simp only [HS, FRS, CCS, hC, hf5, hCp, hC1])) (fun c3 => absurd rfl c3) (fun c3 => ?_)
            exact am_W.rt rfl rfl (by and_intros <;> first | trivial | exact okI rfl rfl rfl | (refine okrI rfl rfl rfl rfl ?_ ?_ <;> (first | omega | (simp only [HS, FRS, CCS, am_R, hC, hf5, hCp, hC1] at *; omega))) | (refine okaI rfl rfl rfl rfl ?_ ?_ <;> (first | omega | (simp only [HS, FRS, CCS, am_R, hC, hf5, hCp, hC1] at *; omega))) | (first | omega | (simp only [HS, FRS, CCS, am_R, hC, hf5, hCp, hC1] at *; omega)) | (simp only [HS, FRS, CCS, hC, hf5, hCp, hC1])) (RQ_e rfl (k7.tr (hF5.mo (Or.inl rfl))) hL5 he)
          | inr u =>
            rw [hpu] at hm5
            rw [pb_r]
            obtain ⟨rfl, hT5, m5, m6⟩ := hm5
            refine am_W.br rfl rfl (by and_intros <;> first | trivial | exact okI rfl rfl rfl | (refine okrI rfl rfl rfl rfl ?_ ?_ <;> (first | omega | (simp only [HS, FRS, CCS, am_R, hC, hf5, hCp, hC1] at *; omega))) | (refine okaI rfl rfl rfl rfl ?_ ?_ <;> (first | omega | (simp only [HS, FRS, CCS, am_R, hC, hf5, hCp, hC1] at *; omega))) | (first | omega | (simp only [HS, FRS, CCS, am_R, hC, hf5, hCp, hC1] at *; omega)) | (simp only [HS, FRS, CCS, hC, hf5, hCp, hC1])) (fun c3 => ?_) (fun c3 => absurd c3 (by decide))
            refine am_W.gp 110 rfl (by and_intros <;> first | trivial | exact okI rfl rfl rfl | (refine okrI rfl rfl rfl rfl ?_ ?_ <;> (first | omega | (simp only [HS, FRS, CCS, am_R, hC, hf5, hCp, hC1] at *; omega))) | (refine okaI rfl rfl rfl rfl ?_ ?_ <;> (first | omega | (simp only [HS, FRS, CCS, am_R, hC, hf5, hCp, hC1] at *; omega))) | (first | omega | (simp only [HS, FRS, CCS, am_R, hC, hf5, hCp, hC1] at *; omega)) | (simp only [HS, FRS, CCS, hC, hf5, hCp, hC1])) ?_
            simp only [HS, FRS, hC, hf5, hCp, hC1]
            have j1 : LI (am_u2 f5 44 r (f5 18 23)) a5 := LI_p p0 hL5
            have j2 : Fr r (r + 1) fi (am_u2 f5 44 r (f5 18 23)) a5 a5 := (k7.tr (hF5.mo (Or.inl rfl))).tr (Fr_m p0)
            have j3 : am_u2 f5 44 r (f5 18 23) 43 r = y.2.2.1 := by rw [u2n (by decide), hF5.at 43 r p0 (by omega), hF4.at 43 r p0 (by omega)]; exact k3
            have j4 : am_u2 f5 44 r (f5 18 23) 44 r = u.2.2.1 := by rw [u2s]; exact m5
            have j5 : am_u2 f5 44 r (f5 18 23) 15 23 = u.2.2.2 := by rw [u2a (by omega)]; exact hT5.2.2.2
            have j6 : ∀ j, j ≠ 43 → j ≠ 44 → am_u2 f5 44 r (f5 18 23) j r = fi j r := fun j q1 q2 => by rw [u2n q2, hF5.at j r p0 (by omega), hF4.at j r p0 (by omega)]; exact k6 j q1
            generalize am_u2 f5 44 r (f5 18 23) = f6 at *
            refine am_W.cv 2 m_Re_nextIsNumberBelow rfl rfl rfl rfl (by and_intros <;> first | trivial | exact okI rfl rfl rfl | (refine okrI rfl rfl rfl rfl ?_ ?_ <;> (first | omega | (simp only [HS, FRS, CCS, am_R, hC, hf5, hCp, hC1] at *; omega))) | (refine okaI rfl rfl rfl rfl ?_ ?_ <;> (first | omega | (simp only [HS, FRS, CCS, am_R, hC, hf5, hCp, hC1] at *; omega))) | (first | omega | (simp only [HS, FRS, CCS, am_R, hC, hf5, hCp, hC1] at *; omega)) | (simp only [HS, FRS, CCS, hC, hf5, hCp, hC1])) (c_numT d L B1 B2 f6 a5 aj t u.2.2.2 (co (DD fi a5) y.2.2.1) ⟨by omega, by omega⟩ j1 (by rw [j2.LT (Or.inr p0)]; exact et) j5) ?_
            rintro r1 h1 ⟨f7, a7, rfl, hF7, hL7, hm7⟩
            have ea := Fr0a hF7
            subst ea
            cases hpw : pNum t (co (DD fi a7) y.2.2.1) u.2.2.2 with
            | inl e =>
              rw [hpw] at hm7
              obtain ⟨rfl, he⟩ := hm7
              refine am_W.br rfl rfl (by and_intros <;> first | trivial | exact okI rfl rfl rfl | (refine okrI rfl rfl rfl rfl ?_ ?_ <;> (first | omega | (simp only [HS, FRS, CCS, am_R, hC, hf5, hCp, hC1] at *; omega))) | (refine okaI rfl rfl rfl rfl ?_ ?_ <;> (first | omega | (simp only [HS, FRS, CCS, am_R, hC, hf5, hCp, hC1] at *; omega))) | (first | omega | (simp only [HS, FRS, CCS, am_R, hC, hf5, hCp, hC1] at *; omega)) | (simp only [HS, FRS, CCS, hC, hf5, hCp, hC1])) (fun c3 => absurd rfl c3) (fun c3 => ?_)
              exact am_W.rt rfl rfl (by and_intros <;> first | trivial | exact okI rfl rfl rfl | (refine okrI rfl rfl rfl rfl ?_ ?_ <;> (first | omega | (simp only [HS, FRS, CCS, am_R, hC, hf5, hCp, hC1] at *; omega))) | (refine okaI rfl rfl rfl rfl ?_ ?_ <;> (first | omega | (simp only [HS, FRS, CCS, am_R, hC, hf5, hCp, hC1] at *; omega))) | (first | omega | (simp only [HS, FRS, CCS, am_R, hC, hf5, hCp, hC1] at *; omega)) | (simp only [HS, FRS, CCS, hC, hf5, hCp, hC1])) (RQ_e rfl (j2.tr (hF7.mo (Or.inl rfl))) hL7 he)
            | inr w =>
              rw [hpw] at hm7
              rw [pb_r]
              obtain ⟨rfl, hT7, m7, m8⟩ := hm7
              refine am_W.br rfl rfl (by and_intros <;> first | trivial | exact okI rfl rfl rfl | (refine okrI rfl rfl rfl rfl ?_ ?_ <;> (first | omega | (simp only [HS, FRS, CCS, am_R, hC, hf5, hCp, hC1] at *; omega))) | (refine okaI rfl rfl rfl rfl ?_ ?_ <;> (first | omega | (simp only [HS, FRS, CCS, am_R, hC, hf5, hCp, hC1] at *; omega))) | (first | omega | (simp only [HS, FRS, CCS, am_R, hC, hf5, hCp, hC1] at *; omega)) | (simp only [HS, FRS, CCS, hC, hf5, hCp, hC1])) (fun c3 => ?_) (fun c3 => absurd c3 (by decide))
              have i1 : LI (am_u2 f7 45 r (f7 18 23)) a7 := LI_p p0 hL7
              have i2 : Fr r (r + 1) fi (am_u2 f7 45 r (f7 18 23)) a7 a7 := (j2.tr (hF7.mo (Or.inl rfl))).tr (Fr_m p0)
              refine am_W.cv 3 m_To_next rfl rfl rfl rfl (by and_intros <;> first | trivial | exact okI rfl rfl rfl | (refine okrI rfl rfl rfl rfl ?_ ?_ <;> (first | omega | (simp only [HS, FRS, CCS, am_R, hC, hf5, hCp, hC1] at *; omega))) | (refine okaI rfl rfl rfl rfl ?_ ?_ <;> (first | omega | (simp only [HS, FRS, CCS, am_R, hC, hf5, hCp, hC1] at *; omega))) | (first | omega | (simp only [HS, FRS, CCS, am_R, hC, hf5, hCp, hC1] at *; omega)) | (simp only [HS, FRS, CCS, hC, hf5, hCp, hC1])) (c_nxT (d + 1) L B1 B2 (am_u2 f7 45 r (f7 18 23)) a7 aj t w.2.2.2 i1 (by rw [i2.LT (Or.inr p0)]; exact et) (by rw [u2a (by omega)]; exact hT7.2.2.2)) ?_
              rintro r1 h1 ⟨rfl, f8, rfl, hF8, hL8, hT8⟩
              refine am_W.rt rfl rfl (by and_intros <;> first | trivial | exact okI rfl rfl rfl | (refine okrI rfl rfl rfl rfl ?_ ?_ <;> (first | omega | (simp only [HS, FRS, CCS, am_R, hC, hf5, hCp, hC1] at *; omega))) | (refine okaI rfl rfl rfl rfl ?_ ?_ <;> (first | omega | (simp only [HS, FRS, CCS, am_R, hC, hf5, hCp, hC1] at *; omega))) | (first | omega | (simp only [HS, FRS, CCS, am_R, hC, hf5, hCp, hC1] at *; omega)) | (simp only [HS, FRS, CCS, hC, hf5, hCp, hC1])) (RQ_y (a := ((y.2.2.1, u.2.2.1, w.2.2.1), lx t w.2.2.2 0)) rfl (i2.tr (hF8.mo (Or.inl rfl))) hL8 ⟨?_, ?_, ?_, hT8, rfl, ?_, ?_⟩)
              · rw [hF8.at 43 r p0 (by omega), u2n (by decide), hF7.at 43 r p0 (by omega)]
                exact j3
              · rw [hF8.at 44 r p0 (by omega), u2n (by decide), hF7.at 44 r p0 (by omega)]
                exact j4
              · rw [hF8.at 45 r p0 (by omega), u2s]
                exact m7
              · intro j q1 q2 q3
                rw [hF8.at j r p0 (by omega), u2n q3, hF7.at j r p0 (by omega)]
                exact j6 j q1 q2
              · show 0 ≤ y.2.2.1
                omega
      · simp only [HS, FRS, hC, hf5, hCp, hC1] at c5
        rw [if_pos (by omega)]
        refine am_W.cv 2 m_Re_mayNot rfl rfl rfl rfl (by and_intros <;> first | trivial | exact okI rfl rfl rfl | (refine okrI rfl rfl rfl rfl ?_ ?_ <;> (first | omega | (simp only [HS, FRS, CCS, am_R, hC, hf5, hCp, hC1] at *; omega))) | (refine okaI rfl rfl rfl rfl ?_ ?_ <;> (first | omega | (simp only [HS, FRS, CCS, am_R, hC, hf5, hCp, hC1] at *; omega))) | (first | omega | (simp only [HS, FRS, CCS, am_R, hC, hf5, hCp, hC1] at *; omega)) | (simp only [HS, FRS, CCS, hC, hf5, hCp, hC1])) (c_mayNot (d + 2) L B1 B2 f3 a2 aj a) ?_
        rintro r1 h1 ⟨rfl, rfl⟩
        exact am_W.rt rfl rfl (by and_intros <;> first | trivial | exact okI rfl rfl rfl | (refine okrI rfl rfl rfl rfl ?_ ?_ <;> (first | omega | (simp only [HS, FRS, CCS, am_R, hC, hf5, hCp, hC1] at *; omega))) | (refine okaI rfl rfl rfl rfl ?_ ?_ <;> (first | omega | (simp only [HS, FRS, CCS, am_R, hC, hf5, hCp, hC1] at *; omega))) | (first | omega | (simp only [HS, FRS, CCS, am_R, hC, hf5, hCp, hC1] at *; omega)) | (simp only [HS, FRS, CCS, hC, hf5, hCp, hC1])) (RQ_f rfl k2 k1)
    · simp only [HS, FRS, hC, hf5, hCp, hC1] at c4
      rw [if_pos (by omega)]
      refine am_W.cv 2 m_Re_mayNot rfl rfl rfl rfl (by and_intros <;> first | trivial | exact okI rfl rfl rfl | (refine okrI rfl rfl rfl rfl ?_ ?_ <;> (first | omega | (simp only [HS, FRS, CCS, am_R, hC, hf5, hCp, hC1] at *; omega))) | (refine okaI rfl rfl rfl rfl ?_ ?_ <;> (first | omega | (simp only [HS, FRS, CCS, am_R, hC, hf5, hCp, hC1] at *; omega))) | (first | omega | (simp only [HS, FRS, CCS, am_R, hC, hf5, hCp, hC1] at *; omega)) | (simp only [HS, FRS, CCS, hC, hf5, hCp, hC1])) (c_mayNot (d + 2) L B1 B2 f2 a2 aj (f2 16 23)) ?_
      rintro r1 h1 ⟨rfl, rfl⟩
      refine am_W.rt rfl rfl (by and_intros <;> first | trivial | exact okI rfl rfl rfl | (refine okrI rfl rfl rfl rfl ?_ ?_ <;> (first | omega | (simp only [HS, FRS, CCS, am_R, hC, hf5, hCp, hC1] at *; omega))) | (refine okaI rfl rfl rfl rfl ?_ ?_ <;> (first | omega | (simp only [HS, FRS, CCS, am_R, hC, hf5, hCp, hC1] at *; omega))) | (first | omega | (simp only [HS, FRS, CCS, am_R, hC, hf5, hCp, hC1] at *; omega)) | (simp only [HS, FRS, CCS, hC, hf5, hCp, hC1])) (RQ_f ?_ (hF2.mo (Or.inl rfl)) hL2)
      rw [hT2.1]
def KO (r : Nat) (fi : Nat → Nat → Int) (ai : Nat → Int → Int) : (Nat → Nat → Int) → (Nat → Int → Int) → PT × JT × Tk → Prop := fun fi' ai' x => RepP fi' ai' (r + 5) x.1 ∧ fi' 43 r = x.2.1.1 ∧ (x.2.1.1 ≠ -1 → fi' 44 r = x.2.1.2.1 ∧ fi' 45 r = x.2.1.2.2) ∧ TC fi' x.2.2 ∧ ai' r = ai r ∧ (∀ j, j ≠ 43 → j ≠ 44 → j ≠ 45 → fi' j r = fi j r) ∧ (∀ j b, r < b → b < r + 5 → fi' j b = fi j b) ∧ (∀ b, r < b → b < r + 5 → ai' b = ai b)
theorem RepP.fr {fi fi' : Nat → Nat → Int} {ai ai' : Nat → Int → Int} {p : Nat} {x : PT} (h : RepP fi ai p x) (h1 : ∀ j, fi' j p = fi j p) (h2 : ai' (p + 1) = ai (p + 1)) : RepP fi' ai' p x := by
  unfold RepP
  rw [h1, h1, h1, h2]
  exact h
theorem Fr_q {r : Nat} {j p : Nat} {fi : Nat → Nat → Int} {ai : Nat → Int → Int} {x : Int} (h : 40 ≤ r) (h1 : r ≤ p) (h2 : p < r + 7) : Fr r (r + 7) fi (am_u2 fi j p x) ai ai := ⟨fun _ _ _ _ q => u2a (by omega), fun _ _ => rfl, u2a (by omega)⟩
set_option maxHeartbeats 400000 in
set_option maxRecDepth 100000 in
theorem c_takeObject (d L B1 B2 : Nat) (fi : Nat → Nat → Int) (ai aj : Nat → Int → Int) (r : Nat) (s m : Int) (σ : Tk) (hp : MapAt L B1 B2 r) (hm : am_R m) (hL : LI fi ai) (hI : DI (DD fi ai)) (hs : fi 39 r = s ∧ am_R s) (hj : fi 43 r = -1) (hT : TC fi σ) : am_M am_prog (d + 5) m_Re_takeObject [.inr (.inr 22), .inr (.inr r), .inr (.inr 17), .inl m] (HH L B1 B2 fi ai aj) (RQ L B1 B2 aj r (r + 7) fi ai (pObj (tx (fi 14 23) (ai 24)) (DD fi ai) s m σ) (KO r fi ai)) := by
  obtain ⟨p0, p1, hC, hf3, hf4, hf5, hpa, hpb, hpc⟩ := id hp
  have hCp : CC L (r + 5) = (9, 0) := hpc.2.2.1
  have hC1 : True := trivial
  have ll := hL.2.2.2
  obtain ⟨t1, t2, t3, t4⟩ := id hT
  generalize et : tx (fi 14 23) (ai 24) = t
  refine am_W.of rfl rfl ?_
  unfold pObj
  refine am_W.br rfl rfl (by and_intros <;> first | trivial | exact okI rfl rfl rfl | (refine okrI rfl rfl rfl rfl ?_ ?_ <;> (first | omega | (simp only [HS, FRS, CCS, am_R, hC, hf5, hCp, hC1] at *; omega))) | (refine okaI rfl rfl rfl rfl ?_ ?_ <;> (first | omega | (simp only [HS, FRS, CCS, am_R, hC, hf5, hCp, hC1] at *; omega))) | (first | omega | (simp only [HS, FRS, CCS, am_R, hC, hf5, hCp, hC1] at *; omega)) | (simp only [HS, FRS, CCS, hC, hf5, hCp, hC1])) (fun c1 => ?_) (fun c1 => ?_)
  · simp only [HS, FRS, hC, hf5, hCp, hC1] at c1
    rw [if_pos (by omega)]
    refine am_W.cv 2 m_Re_nextIsNumberBelow rfl rfl rfl rfl (by and_intros <;> first | trivial | exact okI rfl rfl rfl | (refine okrI rfl rfl rfl rfl ?_ ?_ <;> (first | omega | (simp only [HS, FRS, CCS, am_R, hC, hf5, hCp, hC1] at *; omega))) | (refine okaI rfl rfl rfl rfl ?_ ?_ <;> (first | omega | (simp only [HS, FRS, CCS, am_R, hC, hf5, hCp, hC1] at *; omega))) | (first | omega | (simp only [HS, FRS, CCS, am_R, hC, hf5, hCp, hC1] at *; omega)) | (simp only [HS, FRS, CCS, hC, hf5, hCp, hC1])) (c_numT (d + 1) L B1 B2 fi ai aj t σ.2.2.2 4 (by and_intros <;> first | trivial | exact okI rfl rfl rfl | (refine okrI rfl rfl rfl rfl ?_ ?_ <;> (first | omega | (simp only [HS, FRS, CCS, am_R, hC, hf5, hCp, hC1] at *; omega))) | (refine okaI rfl rfl rfl rfl ?_ ?_ <;> (first | omega | (simp only [HS, FRS, CCS, am_R, hC, hf5, hCp, hC1] at *; omega))) | (first | omega | (simp only [HS, FRS, CCS, am_R, hC, hf5, hCp, hC1] at *; omega)) | (simp only [HS, FRS, CCS, hC, hf5, hCp, hC1])) hL et t4) ?_
    rintro r1 h1 ⟨f2, a2, rfl, hF2, hL2, hm2⟩
    have ea := Fr0a hF2
    subst ea
    cases hpn : pNum t 4 σ.2.2.2 with
    | inl e =>
      rw [hpn] at hm2
      obtain ⟨rfl, he⟩ := hm2
      refine am_W.br rfl rfl (by and_intros <;> first | trivial | exact okI rfl rfl rfl | (refine okrI rfl rfl rfl rfl ?_ ?_ <;> (first | omega | (simp only [HS, FRS, CCS, am_R, hC, hf5, hCp, hC1] at *; omega))) | (refine okaI rfl rfl rfl rfl ?_ ?_ <;> (first | omega | (simp only [HS, FRS, CCS, am_R, hC, hf5, hCp, hC1] at *; omega))) | (first | omega | (simp only [HS, FRS, CCS, am_R, hC, hf5, hCp, hC1] at *; omega)) | (simp only [HS, FRS, CCS, hC, hf5, hCp, hC1])) (fun c3 => absurd rfl c3) (fun c3 => ?_)
      exact am_W.rt rfl rfl (by and_intros <;> first | trivial | exact okI rfl rfl rfl | (refine okrI rfl rfl rfl rfl ?_ ?_ <;> (first | omega | (simp only [HS, FRS, CCS, am_R, hC, hf5, hCp, hC1] at *; omega))) | (refine okaI rfl rfl rfl rfl ?_ ?_ <;> (first | omega | (simp only [HS, FRS, CCS, am_R, hC, hf5, hCp, hC1] at *; omega))) | (first | omega | (simp only [HS, FRS, CCS, am_R, hC, hf5, hCp, hC1] at *; omega)) | (simp only [HS, FRS, CCS, hC, hf5, hCp, hC1])) (RQ_e rfl (hF2.mo (Or.inl rfl)) hL2 he)
    | inr y =>
      rw [hpn] at hm2
      obtain ⟨rfl, hT2, m1, m2⟩ := hm2
      rw [pb_r]
      have l2 := hL2.2.2
      refine am_W.br rfl rfl (by and_intros <;> first | trivial | exact okI rfl rfl rfl | (refine okrI rfl rfl rfl rfl ?_ ?_ <;> (first | omega | (simp only [HS, FRS, CCS, am_R, hC, hf5, hCp, hC1] at *; omega))) | (refine okaI rfl rfl rfl rfl ?_ ?_ <;> (first | omega | (simp only [HS, FRS, CCS, am_R, hC, hf5, hCp, hC1] at *; omega))) | (first | omega | (simp only [HS, FRS, CCS, am_R, hC, hf5, hCp, hC1] at *; omega)) | (simp only [HS, FRS, CCS, hC, hf5, hCp, hC1])) (fun c3 => ?_) (fun c3 => absurd c3 (by decide))
      refine am_W.gp 76 rfl (by and_intros <;> first | trivial | exact okI rfl rfl rfl | (refine okrI rfl rfl rfl rfl ?_ ?_ <;> (first | omega | (simp only [HS, FRS, CCS, am_R, hC, hf5, hCp, hC1] at *; omega))) | (refine okaI rfl rfl rfl rfl ?_ ?_ <;> (first | omega | (simp only [HS, FRS, CCS, am_R, hC, hf5, hCp, hC1] at *; omega))) | (first | omega | (simp only [HS, FRS, CCS, am_R, hC, hf5, hCp, hC1] at *; omega)) | (simp only [HS, FRS, CCS, hC, hf5, hCp, hC1])) ?_
      simp only [HS, FRS, hC, hf5, hCp, hC1]
      have e18 : am_u2 f2 50 (r + 5) 2 18 23 = f2 18 23 := u2n (by decide)
      rw [e18]
      have k1 : LI (am_u2 (am_u2 f2 50 (r + 5) 2) 51 (r + 5) (f2 18 23)) a2 := LI_p (by omega) (LI_p (by omega) hL2)
      have k2 : Fr r (r + 7) fi (am_u2 (am_u2 f2 50 (r + 5) 2) 51 (r + 5) (f2 18 23)) a2 a2 := (hF2.mo (Or.inl rfl)).tr ((Fr_q p0 (by omega) (by omega)).tr (Fr_q p0 (by omega) (by omega)))
      have k3 : am_u2 (am_u2 f2 50 (r + 5) 2) 51 (r + 5) (f2 18 23) 50 (r + 5) = 2 := by rw [u2n (by decide), u2s]
      have k4 : am_u2 (am_u2 f2 50 (r + 5) 2) 51 (r + 5) (f2 18 23) 51 (r + 5) = y.2.2.1 := by rw [u2s]; exact m1
      have k5 : am_u2 (am_u2 f2 50 (r + 5) 2) 51 (r + 5) (f2 18 23) 15 23 = y.2.2.2 := by rw [u2a (by omega), u2a (by omega)]; exact hT2.2.2.2
      have k6 : ∀ j b, r ≤ b → b < r + 5 → am_u2 (am_u2 f2 50 (r + 5) 2) 51 (r + 5) (f2 18 23) j b = fi j b := fun j b q1 q2 => by rw [u2a (by omega), u2a (by omega), hF2.at j b (by omega) (by omega)]
      generalize am_u2 (am_u2 f2 50 (r + 5) 2) 51 (r + 5) (f2 18 23) = f3 at *
      refine am_W.cv 3 m_To_next rfl rfl rfl rfl (by and_intros <;> first | trivial | exact okI rfl rfl rfl | (refine okrI rfl rfl rfl rfl ?_ ?_ <;> (first | omega | (simp only [HS, FRS, CCS, am_R, hC, hf5, hCp, hC1] at *; omega))) | (refine okaI rfl rfl rfl rfl ?_ ?_ <;> (first | omega | (simp only [HS, FRS, CCS, am_R, hC, hf5, hCp, hC1] at *; omega))) | (first | omega | (simp only [HS, FRS, CCS, am_R, hC, hf5, hCp, hC1] at *; omega)) | (simp only [HS, FRS, CCS, hC, hf5, hCp, hC1])) (c_nxT (d + 2) L B1 B2 f3 a2 aj t y.2.2.2 k1 (by rw [k2.LT (Or.inr p0)]; exact et) k5) ?_
      rintro r1 h1 ⟨rfl, f4, rfl, hF4, hL4, hT4⟩
      have l4 := hL4.2.2.2
      obtain ⟨z1, z2, z3, z4⟩ := id hT4
      have q2 : Fr r (r + 7) fi f4 a2 a2 := k2.tr (hF4.mo (Or.inl rfl))
      have q3 : f4 50 (r + 5) = 2 := by rw [hF4.at 50 (r + 5) (by omega) (by omega)]; exact k3
      have q4 : f4 51 (r + 5) = y.2.2.1 := by rw [hF4.at 51 (r + 5) (by omega) (by omega)]; exact k4
      have q6 : ∀ j b, r ≤ b → b < r + 5 → f4 j b = fi j b := fun j b g1 g2 => by rw [hF4.at j b (by omega) (by omega)]; exact k6 j b g1 g2
      have hD4 := q2.D (Or.inr p0)
      generalize lx t y.2.2.2 0 = z at *
      refine am_W.br rfl rfl (by and_intros <;> first | trivial | exact okI rfl rfl rfl | (refine okrI rfl rfl rfl rfl ?_ ?_ <;> (first | omega | (simp only [HS, FRS, CCS, am_R, hC, hf5, hCp, hC1] at *; omega))) | (refine okaI rfl rfl rfl rfl ?_ ?_ <;> (first | omega | (simp only [HS, FRS, CCS, am_R, hC, hf5, hCp, hC1] at *; omega))) | (first | omega | (simp only [HS, FRS, CCS, am_R, hC, hf5, hCp, hC1] at *; omega)) | (simp only [HS, FRS, CCS, hC, hf5, hCp, hC1])) (fun c4 => ?_) (fun c4 => ?_)
      · simp only [HS, FRS, hC, hf5, hCp, hC1] at c4
        rw [if_neg (by omega)]
        refine am_W.br rfl rfl (by and_intros <;> first | trivial | exact okI rfl rfl rfl | (refine okrI rfl rfl rfl rfl ?_ ?_ <;> (first | omega | (simp only [HS, FRS, CCS, am_R, hC, hf5, hCp, hC1] at *; omega))) | (refine okaI rfl rfl rfl rfl ?_ ?_ <;> (first | omega | (simp only [HS, FRS, CCS, am_R, hC, hf5, hCp, hC1] at *; omega))) | (first | omega | (simp only [HS, FRS, CCS, am_R, hC, hf5, hCp, hC1] at *; omega)) | (simp only [HS, FRS, CCS, hC, hf5, hCp, hC1])) (fun c5 => ?_) (fun c5 => ?_)
        · simp only [HS, FRS, hC, hf5, hCp, hC1] at c5
          rw [if_pos (by omega)]
          refine am_W.rt rfl rfl (by and_intros <;> first | trivial | exact okI rfl rfl rfl | (refine okrI rfl rfl rfl rfl ?_ ?_ <;> (first | omega | (simp only [HS, FRS, CCS, am_R, hC, hf5, hCp, hC1] at *; omega))) | (refine okaI rfl rfl rfl rfl ?_ ?_ <;> (first | omega | (simp only [HS, FRS, CCS, am_R, hC, hf5, hCp, hC1] at *; omega))) | (first | omega | (simp only [HS, FRS, CCS, am_R, hC, hf5, hCp, hC1] at *; omega)) | (simp only [HS, FRS, CCS, hC, hf5, hCp, hC1])) (RQ_y (a := ((2, y.2.2.1, []), (-1, 0, 0), z)) rfl q2 hL4 ⟨⟨q3, fun _ => q4, fun q => absurd q (show ¬ (2 : Int) = 0 by decide)⟩, ?_, fun q => absurd rfl q, hT4, rfl, ?_, ?_, fun _ _ _ => rfl⟩)
          · rw [q6 43 r (by omega) (by omega)]
            exact hj
          · intro j _ _ _
            exact q6 j r (by omega) (by omega)
          · intro j b g1 g2
            exact q6 j b (by omega) g2
        · simp only [HS, FRS, hC, hf5, hCp, hC1] at c5
          rw [if_neg (by omega)]
          refine am_W.cv 2 m_Re_mayNot rfl rfl rfl rfl (by and_intros <;> first | trivial | exact okI rfl rfl rfl | (refine okrI rfl rfl rfl rfl ?_ ?_ <;> (first | omega | (simp only [HS, FRS, CCS, am_R, hC, hf5, hCp, hC1] at *; omega))) | (refine okaI rfl rfl rfl rfl ?_ ?_ <;> (first | omega | (simp only [HS, FRS, CCS, am_R, hC, hf5, hCp, hC1] at *; omega))) | (first | omega | (simp only [HS, FRS, CCS, am_R, hC, hf5, hCp, hC1] at *; omega)) | (simp only [HS, FRS, CCS, hC, hf5, hCp, hC1])) (c_mayNot (d + 3) L B1 B2 f4 a2 aj (f2 16 23)) ?_
          rintro r1 h1 ⟨rfl, rfl⟩
          refine am_W.br rfl rfl (by and_intros <;> first | trivial | exact okI rfl rfl rfl | (refine okrI rfl rfl rfl rfl ?_ ?_ <;> (first | omega | (simp only [HS, FRS, CCS, am_R, hC, hf5, hCp, hC1] at *; omega))) | (refine okaI rfl rfl rfl rfl ?_ ?_ <;> (first | omega | (simp only [HS, FRS, CCS, am_R, hC, hf5, hCp, hC1] at *; omega))) | (first | omega | (simp only [HS, FRS, CCS, am_R, hC, hf5, hCp, hC1] at *; omega)) | (simp only [HS, FRS, CCS, hC, hf5, hCp, hC1])) (fun c6 => ?_) (fun c6 => absurd rfl c6)
          refine am_W.rt rfl rfl (by and_intros <;> first | trivial | exact okI rfl rfl rfl | (refine okrI rfl rfl rfl rfl ?_ ?_ <;> (first | omega | (simp only [HS, FRS, CCS, am_R, hC, hf5, hCp, hC1] at *; omega))) | (refine okaI rfl rfl rfl rfl ?_ ?_ <;> (first | omega | (simp only [HS, FRS, CCS, am_R, hC, hf5, hCp, hC1] at *; omega))) | (first | omega | (simp only [HS, FRS, CCS, am_R, hC, hf5, hCp, hC1] at *; omega)) | (simp only [HS, FRS, CCS, hC, hf5, hCp, hC1])) (RQ_f ?_ q2 hL4)
          rw [hT2.1]
      · simp only [HS, FRS, hC, hf5, hCp, hC1] at c4
        rw [if_pos (by omega)]
        refine am_W.cv 2 m_Re_takeJoin rfl rfl rfl rfl (by and_intros <;> first | trivial | exact okI rfl rfl rfl | (refine okrI rfl rfl rfl rfl ?_ ?_ <;> (first | omega | (simp only [HS, FRS, CCS, am_R, hC, hf5, hCp, hC1] at *; omega))) | (refine okaI rfl rfl rfl rfl ?_ ?_ <;> (first | omega | (simp only [HS, FRS, CCS, am_R, hC, hf5, hCp, hC1] at *; omega))) | (first | omega | (simp only [HS, FRS, CCS, am_R, hC, hf5, hCp, hC1] at *; omega)) | (simp only [HS, FRS, CCS, hC, hf5, hCp, hC1])) (c_takeJoin d L B1 B2 f4 a2 aj r s m y.2.2.1 (f2 16 23) z.2.2.2 hp hm hL4 (by rw [hD4]; exact hI) ⟨by rw [q6 39 r (by omega) (by omega)]; exact hs.1, hs.2⟩ ⟨q4, ⟨by omega, by omega⟩⟩ z4) ?_
        rintro r1 h1 ⟨f5, a5, rfl, hF5, hL5, hm5⟩
        rw [q2.LT (Or.inr p0), et, hD4, hT2.1] at hm5
        cases hpj : pJoin t (DD fi a2) s m y.2.2.1 y.1 z.2.2.2 with
        | inl e =>
          rw [hpj] at hm5
          obtain ⟨rfl, he⟩ := hm5
          exact am_W.rt rfl rfl (by and_intros <;> first | trivial | exact okI rfl rfl rfl | (refine okrI rfl rfl rfl rfl ?_ ?_ <;> (first | omega | (simp only [HS, FRS, CCS, am_R, hC, hf5, hCp, hC1] at *; omega))) | (refine okaI rfl rfl rfl rfl ?_ ?_ <;> (first | omega | (simp only [HS, FRS, CCS, am_R, hC, hf5, hCp, hC1] at *; omega))) | (first | omega | (simp only [HS, FRS, CCS, am_R, hC, hf5, hCp, hC1] at *; omega)) | (simp only [HS, FRS, CCS, hC, hf5, hCp, hC1])) (RQ_e rfl (q2.tr (hF5.mo (by omega))) hL5 he)
        | inr x =>
          rw [hpj] at hm5
          rw [pb_r]
          obtain ⟨rfl, x1, x2, x3, x4, x5, x6, x7⟩ := hm5
          refine am_W.rt rfl rfl (by and_intros <;> first | trivial | exact okI rfl rfl rfl | (refine okrI rfl rfl rfl rfl ?_ ?_ <;> (first | omega | (simp only [HS, FRS, CCS, am_R, hC, hf5, hCp, hC1] at *; omega))) | (refine okaI rfl rfl rfl rfl ?_ ?_ <;> (first | omega | (simp only [HS, FRS, CCS, am_R, hC, hf5, hCp, hC1] at *; omega))) | (first | omega | (simp only [HS, FRS, CCS, am_R, hC, hf5, hCp, hC1] at *; omega)) | (simp only [HS, FRS, CCS, hC, hf5, hCp, hC1])) (RQ_y (a := ((2, y.2.2.1, []), x.1, x.2)) rfl (q2.tr (hF5.mo (by omega))) hL5 ⟨⟨?_, ?_, fun q => absurd q (show ¬ (2 : Int) = 0 by decide)⟩, x1, fun _ => ⟨x2, x3⟩, x4, x5, ?_, ?_, ?_⟩)
          · rw [hF5.at 50 (r + 5) (by omega) (by omega)]
            exact q3
          · intro _
            rw [hF5.at 51 (r + 5) (by omega) (by omega)]
            exact q4
          · intro j g1 g2 g3
            rw [x6 j g1 g2 g3]
            exact q6 j r (by omega) (by omega)
          · intro j b g1 g2
            rw [hF5.at j b (by omega) (by omega)]
            exact q6 j b (by omega) g2
          · intro b g1 g2
            exact hF5.2.1 b (by omega)
  · simp only [HS, FRS, hC, hf5, hCp, hC1] at c1
    rw [if_neg (by omega)]
    have hn := c_takeName d L B1 B2 fi ai aj (r + 5) m σ hpc hm hL hT (by rw [← t2]; exact ll.1)
    rw [et] at hn
    refine am_W.cv 2 m_Re_takeName rfl rfl rfl rfl (by and_intros <;> first | trivial | exact okI rfl rfl rfl | (refine okrI rfl rfl rfl rfl ?_ ?_ <;> (first | omega | (simp only [HS, FRS, CCS, am_R, hC, hf5, hCp, hC1] at *; omega))) | (refine okaI rfl rfl rfl rfl ?_ ?_ <;> (first | omega | (simp only [HS, FRS, CCS, am_R, hC, hf5, hCp, hC1] at *; omega))) | (first | omega | (simp only [HS, FRS, CCS, am_R, hC, hf5, hCp, hC1] at *; omega)) | (simp only [HS, FRS, CCS, hC, hf5, hCp, hC1])) (by show am_M am_prog (d + 4) m_Re_takeName [.inr (.inr 22), .inr (.inr (FRR B1 B2 42 r)), .inl m] (HH L B1 B2 fi ai aj) _; rw [hf5]; exact hn) ?_
    rintro r1 h1 ⟨f2, a2, rfl, hF2, hL2, hm2⟩
    cases hpn : pName t m σ with
    | inl e =>
      rw [hpn] at hm2
      obtain ⟨rfl, he⟩ := hm2
      refine am_W.br rfl rfl (by and_intros <;> first | trivial | exact okI rfl rfl rfl | (refine okrI rfl rfl rfl rfl ?_ ?_ <;> (first | omega | (simp only [HS, FRS, CCS, am_R, hC, hf5, hCp, hC1] at *; omega))) | (refine okaI rfl rfl rfl rfl ?_ ?_ <;> (first | omega | (simp only [HS, FRS, CCS, am_R, hC, hf5, hCp, hC1] at *; omega))) | (first | omega | (simp only [HS, FRS, CCS, am_R, hC, hf5, hCp, hC1] at *; omega)) | (simp only [HS, FRS, CCS, hC, hf5, hCp, hC1])) (fun c3 => absurd rfl c3) (fun c3 => ?_)
      exact am_W.rt rfl rfl (by and_intros <;> first | trivial | exact okI rfl rfl rfl | (refine okrI rfl rfl rfl rfl ?_ ?_ <;> (first | omega | (simp only [HS, FRS, CCS, am_R, hC, hf5, hCp, hC1] at *; omega))) | (refine okaI rfl rfl rfl rfl ?_ ?_ <;> (first | omega | (simp only [HS, FRS, CCS, am_R, hC, hf5, hCp, hC1] at *; omega))) | (first | omega | (simp only [HS, FRS, CCS, am_R, hC, hf5, hCp, hC1] at *; omega)) | (simp only [HS, FRS, CCS, hC, hf5, hCp, hC1])) (RQ_e rfl (hF2.mo (by omega)) hL2 he)
    | inr y =>
      rw [hpn] at hm2
      obtain ⟨rfl, m1, m2⟩ := hm2
      rw [pb_r]
      refine am_W.br rfl rfl (by and_intros <;> first | trivial | exact okI rfl rfl rfl | (refine okrI rfl rfl rfl rfl ?_ ?_ <;> (first | omega | (simp only [HS, FRS, CCS, am_R, hC, hf5, hCp, hC1] at *; omega))) | (refine okaI rfl rfl rfl rfl ?_ ?_ <;> (first | omega | (simp only [HS, FRS, CCS, am_R, hC, hf5, hCp, hC1] at *; omega))) | (first | omega | (simp only [HS, FRS, CCS, am_R, hC, hf5, hCp, hC1] at *; omega)) | (simp only [HS, FRS, CCS, hC, hf5, hCp, hC1])) (fun c3 => ?_) (fun c3 => absurd c3 (by decide))
      refine am_W.cv 3 m_To_next rfl rfl rfl rfl (by and_intros <;> first | trivial | exact okI rfl rfl rfl | (refine okrI rfl rfl rfl rfl ?_ ?_ <;> (first | omega | (simp only [HS, FRS, CCS, am_R, hC, hf5, hCp, hC1] at *; omega))) | (refine okaI rfl rfl rfl rfl ?_ ?_ <;> (first | omega | (simp only [HS, FRS, CCS, am_R, hC, hf5, hCp, hC1] at *; omega))) | (first | omega | (simp only [HS, FRS, CCS, am_R, hC, hf5, hCp, hC1] at *; omega)) | (simp only [HS, FRS, CCS, hC, hf5, hCp, hC1])) (c_nxT (d + 2) L B1 B2 f2 a2 aj t y.2 hL2 (by rw [hF2.LT (Or.inr (by omega))]; exact et) m2) ?_
      rintro r1 h1 ⟨rfl, f3, rfl, hF3, hL3, hT3⟩
      have q6 : ∀ j b, r ≤ b → b < r + 5 → f3 j b = fi j b := fun j b g1 g2 => by rw [hF3.at j b (by omega) (by omega), hF2.at j b (by omega) (by omega)]
      refine am_W.rt rfl rfl (by and_intros <;> first | trivial | exact okI rfl rfl rfl | (refine okrI rfl rfl rfl rfl ?_ ?_ <;> (first | omega | (simp only [HS, FRS, CCS, am_R, hC, hf5, hCp, hC1] at *; omega))) | (refine okaI rfl rfl rfl rfl ?_ ?_ <;> (first | omega | (simp only [HS, FRS, CCS, am_R, hC, hf5, hCp, hC1] at *; omega))) | (first | omega | (simp only [HS, FRS, CCS, am_R, hC, hf5, hCp, hC1] at *; omega)) | (simp only [HS, FRS, CCS, hC, hf5, hCp, hC1])) (RQ_y (a := (y.1, (-1, 0, 0), lx t y.2 0)) rfl ((hF2.mo (by omega)).tr (hF3.mo (Or.inl rfl))) hL3 ⟨m1.fr (fun j => hF3.at j (r + 5) (by omega) (by omega)) rfl, ?_, fun q => absurd rfl q, hT3, hF2.2.1 r (by omega), ?_, ?_, ?_⟩)
      · rw [q6 43 r (by omega) (by omega)]
        exact hj
      · intro j _ _ _
        exact q6 j r (by omega) (by omega)
      · intro j b g1 g2
        exact q6 j b (by omega) g2
      · intro b g1 g2
        exact hF2.2.1 b (by omega)
